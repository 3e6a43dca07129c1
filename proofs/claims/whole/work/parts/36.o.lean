/-! all ride, one after another (promise of all) -/
/-- does one scream, straight, in this world; the world then -/
noncomputable def rdS (w : Nat → Int32) (lw : LW) (a : Nat) : Int32 := (rst (cPar w lw a false false) (-1, 0, 0) ten).1
noncomputable def rwW (w : Nat → Int32) (lw : LW) (a : Nat) : Nat → Int32 := wW (cPar w lw a false false) (-1, 0, 0) a (w 8)
section AL
variable {Θ : GP} {S S0 : PZ} {ω : OW} {n : Nat} {w : Nat → Int32} {lw : LW} {a : Nat}
theorem m_ride1 (hw : zA S 219 = w) (hW : WB w) (hM : LawM w lw) (ha : a < 6) (h23 : zF S 218 23 = 0) (h24 : zF S 218 24 = 0) : ∃ S1, F_X11_ridesStraight Θ (gb Θ + 218) (nI a) (laz Θ S ω) n = some (.inl (some (.int (rdS w lw a)), laz Θ S1 ω, n)) ∧ XP S S1 ∧ F_X11_laysOn Θ (gb Θ + 218) (nI a) (laz Θ S1 ω) n = some (.inl (none, laz Θ (uA S1 219 (rwW w lw a)) ω, n)) := by
  obtain ⟨S1, e, xp, _, _, _, h29, hwo⟩ := m_ridesStraight (Θ := Θ) (ω := ω) (n := n) hw hW hM ha h23 h24
  refine ⟨S1, ?_, xp, ?_⟩
  · unfold rdS; rw [ten_eq]; exact e
  · exact m_laysOn (cPar_ok hW hM ha false false) (q := (-1, 0, 0)) (sd := w 8) (by rw [xp.2.1 219 (by decide) (by decide) (by decide) (by decide), hw]; exact (w8_self w).symm) (by rw [ten_eq]; exact h29) hwo ha
theorem x_ride1 (ha : a < 6) (hW : WB w) (hM : LawM w lw) (hX : RX Θ S ω 202 (cPar w lw a false false)) : ∃ S1, F_X6_straightOn Θ (gb Θ + 202) (laz Θ S ω) n = some (.inl (none, laz Θ S1 ω, n)) ∧ XL 202 S S1 ∧ zF S1 202 8 = rdS w lw a ∧ RX Θ S1 ω 202 (cPar w lw a false false) ∧ ∃ S2, F_X6_wearOn Θ (gb Θ + 202) (laz Θ S1 ω) n = some (.inl (none, laz Θ S2 ω, n)) ∧ XL 202 S S2 ∧ RX Θ S2 ω 202 (cPar (rwW w lw a) lw a false false) ∧ (∀ p, p < cP w → zA S2 204 p = rwW w lw a (4 * p + 11)) := by
  have hR : isR 202 := Or.inl rfl
  have hd : (cPar w lw a false false).2.2.2.2.2.2.2.1 = false := rfl
  obtain ⟨S1, e, o⟩ := x_go (Θ := Θ) (n := n) hR hX
  have e : F_X6_go Θ (gb Θ + 202) 0 0 (laz Θ S ω) n = some (.inl (none, laz Θ S1 ω, n)) := e
  have hb : ∀ j, j < 10 → zA S1 205 j = bhS (cPar w lw a false false) (-1, 0, 0) j := fun j hj => by
    rw [← bhS_nd hd (zF S 202 7) j]; exact o.2.2.2.2.1 j hj
  have rx1 := hX.xr hR o.1
  obtain ⟨S2, e2, x2, _, r2, p2, _⟩ := x_wearC (Θ := Θ) (S := S1) (ω := ω) (n := n) ha hW hM rx1 0 (w 8) hb
  refine ⟨S1, ?_, o.1.xl, ?_, rx1, S2, e2, o.1.xl.trans x2, r2, p2⟩
  · unfold F_X6_straightOn
    rw [d202, e, kV_v]
  · have := o.2.1
    rw [rst_nd hd] at this
    rw [this]; unfold rdS; rw [ten_eq]
theorem x_board1 (hC : Core Θ S0 ω) (xl : XL 202 S0 S) (h : RLd Θ S ω w lw (fun s => pin w (nI s)) (fun _ => false)) (ha : a < cO' (zA S0 219)) {dr te : Bool} (hO : ROK (cPar w lw a dr te)) (g1 : w (4 * a + 41) = zA S0 219 (4 * a + 41)) (g2 : w (4 * a + 42) = zA S0 219 (4 * a + 42)) (g3 : w (4 * a + 43) = zA S0 219 (4 * a + 43)) : ∃ S1, F_X6_board Θ (gb Θ + 202) (nI a) (laz Θ S ω) n = some (.inl (none, laz Θ S1 ω, n)) ∧ XL 202 S0 S1 ∧ RX Θ S1 ω 202 (cPar w lw a dr te) ∧ zF S1 202 7 = zF S 202 7 := by
  have hR : isR 202 := Or.inl rfl
  have h6 := hC.O
  have hr := CRa hC.1.2.1 ha
  refine ⟨uF (uF (uF S 202 3 (zA S 20 a)) 202 4 (zA S 21 a)) 202 5 (zA S 22 a), x_board hR (by omega), ((xl.nF).nF).nF, ?_, ?_⟩
  · refine RLd.rx (c := cPar w lw a dr te) (((h.nF (by decide)).nF (by decide)).nF (by decide)) hO ?_ ?_ ?_
    · rw [zF_ne _ _ (by omega), zF_ne _ _ (by omega), zF_eq, xl.2.1 20 (by omega)]; exact hr.1.trans g1.symm
    · rw [zF_ne _ _ (by omega), zF_eq, xl.2.1 21 (by omega)]; exact hr.2.1.trans g2.symm
    · rw [zF_eq, xl.2.1 22 (by omega)]; exact hr.2.2.1.trans g3.symm
  · rw [zF_ne _ _ (by omega), zF_ne _ _ (by omega), zF_ne _ _ (by omega)]
theorem RX.ld {dr te : Bool} (h : RX Θ S ω 202 (cPar w lw a dr te)) : RLd Θ S ω w lw (fun s => pin w (nI s)) (fun _ => false) := ⟨h.2.1, h.2.2.1, h.2.2.2.1, h.2.2.2.2.1, h.2.2.2.2.2.2.2.2⟩
/-- a world on the way: as w0 but for wear, and what those ahead of a know -/
def AW (w0 w : Nat → Int32) (lw : LW) (a : Nat) : Prop := WB w ∧ LawM w lw ∧ ∀ i, (i % 4 ≠ 3 ∨ i < 11 ∨ 4 * a + 43 ≤ i) → w i = w0 i
theorem AW.up {w0 w : Nat → Int32} (h : AW w0 w lw a) : AW w0 w lw (a + 1) := ⟨h.1, h.2.1, fun i hi => h.2.2 i (by omega)⟩
theorem rwW_ne (w : Nat → Int32) (lw : LW) (a : Nat) {i : Nat} (h : i % 4 ≠ 3 ∨ i < 11) : rwW w lw a i = w i := by
  unfold rwW
  by_cases z : i = 8
  · subst z; rw [wW_8]
  · rw [wW_ne _ _ _ _ z h]; rfl
theorem AW.step {w0 w : Nat → Int32} (h : AW w0 w lw a) (ha : a < 6) : AW w0 (rwW w lw a) lw (a + 1) := by
  have hO := cPar_ok h.1 h.2.1 ha false false
  refine ⟨wW_wb hO _ ha _, wW_law hO _ ha _, fun i hi => ?_⟩
  by_cases z : i % 4 ≠ 3 ∨ i < 11
  · rw [rwW_ne _ _ _ z, h.2.2 i (by omega)]
  · rw [← h.2.2 i (by omega)]
    exact wW_hi hO _ a _ (by omega) (by omega)
noncomputable def al1 (l1 : Int32) (lw : LW) (a : Nat) (x : (Nat → Int32) × Int32) : (Nat → Int32) × Int32 := if x.1 (4 * a + 44) = 0 then (if l1 = 0 then x.1 else rwW x.1 lw a, x.2 ||| (if rdS x.1 lw a = -1 then (0 : Int32) else 1 <<< (nI a &&& 31))) else x
noncomputable def alL (l1 : Int32) (lw : LW) : Nat → Nat → (Nat → Int32) × Int32 → (Nat → Int32) × Int32
  | 0, _, x => x
  | k + 1, a, x => alL l1 lw k (a + 1) (al1 l1 lw a x)
theorem al1_y {l1 : Int32} {x : (Nat → Int32) × Int32} (h : x.1 (4 * a + 44) = 0) : al1 l1 lw a x = (if l1 = 0 then x.1 else rwW x.1 lw a, x.2 ||| (if rdS x.1 lw a = -1 then (0 : Int32) else 1 <<< (nI a &&& 31))) := if_pos h
theorem al1_n {l1 : Int32} {x : (Nat → Int32) × Int32} (h : ¬ x.1 (4 * a + 44) = 0) : al1 l1 lw a x = x := if_neg h
theorem x_all_L (hC : Core Θ S0 ω) {l1 : Int32} : ∀ (k a f : Nat) (x : (Nat → Int32) × Int32) (S : PZ), a + k = cO' (zA S0 219) → k < f → XL 202 S0 S → RLd Θ S ω x.1 lw (fun s => pin x.1 (nI s)) (fun _ => false) → AW (zA S0 219) x.1 lw a → ∃ S', L_X10_all_11 Θ f (gb Θ) l1 x.2 (nI a) (laz Θ S ω) n = some (.inl (some (.int (alL l1 lw k a x).2), laz Θ S' ω, n)) ∧ XL 202 S0 S' := by
  have h6 := hC.O
  intro k
  induction k with
  | zero =>
    intro a f x S h1 h2 xl h ww
    obtain ⟨f, rfl⟩ : ∃ g, f = g + 1 := ⟨f - 1, by omega⟩
    refine ⟨S, ?_, xl⟩
    unfold L_X10_all_11 B_X10_all_11
    rw [r10_0, a14_1, xl.1 14 1 (by omega), h6.2.2, if_pos (nI_le (by omega) (by omega))]
    rfl
  | succ k ih =>
    intro a f x S h1 h2 xl h ww
    obtain ⟨f, rfl⟩ : ∃ g, f = g + 1 := ⟨f - 1, by omega⟩
    have ha : a < cO' (zA S0 219) := by omega
    have ha6 : a < 6 := by omega
    have g44 := ww.2.2 (4 * a + 44) (by omega)
    have pre : L_X10_all_11 Θ (f + 1) (gb Θ) l1 x.2 (nI a) (laz Θ S ω) n = B_X10_all_11 Θ (L_X10_all_11 Θ f) (gb Θ) l1 x.2 (nI a) (laz Θ S ω) n := rfl
    rw [pre]
    unfold B_X10_all_11 J_X10_all_67 J_X10_all_80
    rw [r10_0, a14_1, xl.1 14 1 (by omega), h6.2.2, if_neg (nI_ge (by omega) (by omega)), r10_0, d14, x_waits hC (xl.2.1 23 (by omega)) ha, kI_v]
    rw [show alL l1 lw (k + 1) a x = alL l1 lw k (a + 1) (al1 l1 lw a x) from rfl]
    by_cases z : x.1 (4 * a + 44) = 0
    · rw [if_pos (g44.symm.trans z), if_neg (by decide)]
      obtain ⟨S1, e1, x1, r1, _⟩ := x_board1 (n := n) hC xl h ha (dr := false) (te := false) (cPar_ok ww.1 ww.2.1 ha6 false false) (ww.2.2 _ (by omega)) (ww.2.2 _ (by omega)) (ww.2.2 _ (by omega))
      obtain ⟨S2, e2, x2, h8, r2, S3, e3, x3, r3, _⟩ := x_ride1 (n := n) ha6 ww.1 ww.2.1 r1
      rw [r10_8, d202, e1, kV_v, r10_8, d202, e2, kV_v, r10_8, a202_8, h8, nI_1]
      by_cases y : l1 = 0
      · have et : al1 l1 lw a x = (x.1, x.2 ||| (if rdS x.1 lw a = -1 then (0 : Int32) else 1 <<< (nI a &&& 31))) := by rw [al1_y z, if_pos y]
        obtain ⟨S', e, xl'⟩ := ih (a + 1) f (al1 l1 lw a x) S2 (by omega) (by omega) (x1.trans x2) (by rw [et]; exact r2.ld) (by rw [et]; exact ww.up)
        refine ⟨S', ?_, xl'⟩
        rw [← e, et]
        dsimp only
        by_cases v : rdS x.1 lw a = -1
        · rw [if_pos v, if_pos y, if_pos v]
        · rw [if_neg v, if_pos y, if_neg v]
      · have et : al1 l1 lw a x = (rwW x.1 lw a, x.2 ||| (if rdS x.1 lw a = -1 then (0 : Int32) else 1 <<< (nI a &&& 31))) := by rw [al1_y z, if_neg y]
        obtain ⟨S', e, xl'⟩ := ih (a + 1) f (al1 l1 lw a x) S3 (by omega) (by omega) (x1.trans x3) (by rw [et]; exact r3.ld) (by rw [et]; exact ww.step ha6)
        refine ⟨S', ?_, xl'⟩
        rw [← e, et]
        dsimp only
        by_cases v : rdS x.1 lw a = -1
        · rw [if_pos v, if_neg y, if_pos v, r10_8, d202, e3, kV_v]
        · rw [if_neg v, if_neg y, if_neg v, r10_8, d202, e3, kV_v]
    · rw [if_neg (fun u => z (g44.trans u)), if_pos rfl, nI_1, al1_n z]
      exact ih (a + 1) f x S (by omega) (by omega) xl h ww.up
theorem m_keep_L : ∀ (k p f : Nat) (g : Nat → Int32), p + k = 305 → k < f → L_X11_keepsAll_2 Θ f (gb Θ + 218) (nI p) (laz Θ (uA S 222 g) ω) n = some (.inl (none, laz Θ (uA S 222 (fun j => if p ≤ j ∧ j < 305 then zA S 219 j else g j)) ω, n)) := by
  intro k
  induction k with
  | zero =>
    intro p f g h2 h3
    obtain ⟨f, rfl⟩ : ∃ g, f = g + 1 := ⟨f - 1, by omega⟩
    unfold L_X11_keepsAll_2 B_X11_keepsAll_2
    rw [if_pos (show (305 : Int32) ≤ nI p from nI_le (a := 305) (by omega) (by omega)), show (fun j => if p ≤ j ∧ j < 305 then zA S 219 j else g j) = g from funext fun j => if_neg (by omega)]
  | succ k ih =>
    intro p f g h2 h3
    obtain ⟨f, rfl⟩ : ∃ g, f = g + 1 := ⟨f - 1, by omega⟩
    unfold L_X11_keepsAll_2 B_X11_keepsAll_2
    rw [if_neg (show ¬ (305 : Int32) ≤ nI p from nI_ge (b := 305) (by omega) (by omega)), a218_4, a218_1, l_219 (by omega), zA_ne _ _ (by decide), s_222 (by omega), uA_uA, nI_1, ih (p + 1) f _ (by omega) (by omega), zA_eq]
    congr 6
    funext j
    unfold upd
    by_cases hj : j = p
    · subst hj
      rw [if_neg (by omega), if_pos rfl, if_pos (by omega)]
    · by_cases hq : p ≤ j ∧ j < 305
      · rw [if_pos (by omega), if_pos hq]
      · rw [if_neg (by omega), if_neg hj, if_neg hq]
theorem m_keepsAll : F_X11_keepsAll Θ (gb Θ + 218) (laz Θ S ω) n = some (.inl (none, laz Θ (uA S 222 (fun j => if j < 305 then zA S 219 j else zA S 222 j)) ω, n)) := by
  have e := m_keep_L (Θ := Θ) (S := S) (ω := ω) (n := n) 305 0 5000 (zA S 222) (by omega) (by omega)
  rw [uA_self, show (fun j => if 0 ≤ j ∧ j < 305 then zA S 219 j else zA S 222 j) = (fun j => if j < 305 then zA S 219 j else zA S 222 j) from funext fun j => by
    by_cases h : j < 305
    · rw [if_pos ⟨by omega, h⟩, if_pos h]
    · rw [if_neg (by omega), if_neg h]] at e
  exact e
theorem m_brBk_L : ∀ (k p f : Nat) (g : Nat → Int32), p + k = 305 → k < f → L_X11_bringsBack_2 Θ f (gb Θ + 218) (nI p) (laz Θ (uA S 219 g) ω) n = some (.inl (none, laz Θ (uA S 219 (fun j => if p ≤ j ∧ j < 305 then zA S 222 j else g j)) ω, n)) := by
  intro k
  induction k with
  | zero =>
    intro p f g h2 h3
    obtain ⟨f, rfl⟩ : ∃ g, f = g + 1 := ⟨f - 1, by omega⟩
    unfold L_X11_bringsBack_2 B_X11_bringsBack_2
    rw [if_pos (show (305 : Int32) ≤ nI p from nI_le (a := 305) (by omega) (by omega)), show (fun j => if p ≤ j ∧ j < 305 then zA S 222 j else g j) = g from funext fun j => if_neg (by omega)]
  | succ k ih =>
    intro p f g h2 h3
    obtain ⟨f, rfl⟩ : ∃ g, f = g + 1 := ⟨f - 1, by omega⟩
    unfold L_X11_bringsBack_2 B_X11_bringsBack_2
    rw [if_neg (show ¬ (305 : Int32) ≤ nI p from nI_ge (b := 305) (by omega) (by omega)), a218_1, a218_4, l_222 (by omega), zA_ne _ _ (by decide), s_219 (by omega), uA_uA, nI_1, ih (p + 1) f _ (by omega) (by omega), zA_eq]
    congr 6
    funext j
    unfold upd
    by_cases hj : j = p
    · subst hj
      rw [if_neg (by omega), if_pos rfl, if_pos (by omega)]
    · by_cases hq : p ≤ j ∧ j < 305
      · rw [if_pos (by omega), if_pos hq]
      · rw [if_neg (by omega), if_neg hj, if_neg hq]
theorem m_bringsBack {w0 : Nat → Int32} (hk : ∀ j, j < 305 → zA S 222 j = w0 j) (hw : ∀ j, 305 ≤ j → zA S 219 j = w0 j) : F_X11_bringsBack Θ (gb Θ + 218) (laz Θ S ω) n = some (.inl (none, laz Θ (uA S 219 w0) ω, n)) := by
  have e := m_brBk_L (Θ := Θ) (S := S) (ω := ω) (n := n) 305 0 5000 (zA S 219) (by omega) (by omega)
  rw [uA_self, show (fun j => if 0 ≤ j ∧ j < 305 then zA S 222 j else zA S 219 j) = w0 from funext fun j => by
    by_cases h : j < 305
    · rw [if_pos ⟨by omega, h⟩, hk j h]
    · rw [if_neg (by omega), hw j (by omega)]] at e
  exact e
theorem m_all_L {w0 : Nat → Int32} (hW : WB w0) (h23 : zF S0 218 23 = 0) (h24 : zF S0 218 24 = 0) (hk : ∀ j, j < 305 → zA S0 222 j = w0 j) {l1 : Int32} : ∀ (k a f : Nat) (x : (Nat → Int32) × Int32) (S : PZ), a + k = cO' w0 → k < f → XT S0 S → zA S 219 = x.1 → AW w0 x.1 lw a → ∃ S', L_X11_screamers_8 Θ f (gb Θ + 218) l1 x.2 (nI a) (laz Θ S ω) n = some (.inl (some (.int (alL l1 lw k a x).2), laz Θ S' ω, n)) ∧ XT S0 S' ∧ zA S' 219 = w0 := by
  have h6 := hW.O6
  intro k
  induction k with
  | zero =>
    intro a f x S h1 h2 xt hw ww
    obtain ⟨f, rfl⟩ : ∃ g, f = g + 1 := ⟨f - 1, by omega⟩
    refine ⟨uA S 219 w0, ?_, xt.nA (by omega), zA_eq _ _ _⟩
    unfold L_X11_screamers_8 B_X11_screamers_8
    rw [d218, m_oneCount, kI_v, hw, ww.2.2 1 (by omega), h6.1, if_pos (nI_le (by omega) (by omega)), d218, m_bringsBack (w0 := w0) (fun j hj => by rw [xt.2.1 222 (by decide) (by decide) (by decide) (by decide) (by decide)]; exact hk j hj) (fun j hj => by rw [hw]; exact ww.2.2 j (by omega)), kV_v]
    rfl
  | succ k ih =>
    intro a f x S h1 h2 xt hw ww
    obtain ⟨f, rfl⟩ : ∃ g, f = g + 1 := ⟨f - 1, by omega⟩
    have ha6 : a < 6 := by omega
    have pre : L_X11_screamers_8 Θ (f + 1) (gb Θ + 218) l1 x.2 (nI a) (laz Θ S ω) n = B_X11_screamers_8 Θ (L_X11_screamers_8 Θ f) (gb Θ + 218) l1 x.2 (nI a) (laz Θ S ω) n := rfl
    rw [pre]
    unfold B_X11_screamers_8 J_X11_screamers_44 J_X11_screamers_55
    rw [d218, m_oneCount, kI_v, hw, ww.2.2 1 (by omega), h6.1, if_neg (nI_ge (by omega) (by omega)), d218, m_waits ha6, kI_v, hw]
    rw [show alL l1 lw (k + 1) a x = alL l1 lw k (a + 1) (al1 l1 lw a x) from rfl]
    by_cases z : x.1 (4 * a + 44) = 0
    · obtain ⟨S1, e1, xp, e2⟩ := m_ride1 (Θ := Θ) (ω := ω) (n := n) hw ww.1 ww.2.1 ha6 ((xt.1 218 23 (by omega)).trans h23) ((xt.1 218 24 (by omega)).trans h24)
      have x1 : XT S0 S1 := xt.trans ⟨xp.1, fun k _ a b c d => xp.2.1 k a b c d, xp.2.2⟩
      have hw1 : zA S1 219 = x.1 := (xp.2.1 219 (by decide) (by decide) (by decide) (by decide)).trans hw
      rw [if_pos z, if_neg (by decide), d218, e1, kI_v, nI_1]
      by_cases y : l1 = 0
      · have et : al1 l1 lw a x = (x.1, x.2 ||| (if rdS x.1 lw a = -1 then (0 : Int32) else 1 <<< (nI a &&& 31))) := by rw [al1_y z, if_pos y]
        obtain ⟨S', e, xl'⟩ := ih (a + 1) f (al1 l1 lw a x) S1 (by omega) (by omega) x1 (by rw [et]; exact hw1) (by rw [et]; exact ww.up)
        refine ⟨S', ?_, xl'⟩
        rw [← e, et]
        dsimp only
        by_cases v : rdS x.1 lw a = -1
        · rw [if_pos v, if_pos y, if_pos v]
        · rw [if_neg v, if_pos y, if_neg v]
      · have et : al1 l1 lw a x = (rwW x.1 lw a, x.2 ||| (if rdS x.1 lw a = -1 then (0 : Int32) else 1 <<< (nI a &&& 31))) := by rw [al1_y z, if_neg y]
        obtain ⟨S', e, xl'⟩ := ih (a + 1) f (al1 l1 lw a x) (uA S1 219 (rwW x.1 lw a)) (by omega) (by omega) (x1.nA (by omega)) (by rw [et]; exact zA_eq _ _ _) (by rw [et]; exact ww.step ha6)
        refine ⟨S', ?_, xl'⟩
        rw [← e, et]
        dsimp only
        by_cases v : rdS x.1 lw a = -1
        · rw [if_pos v, if_neg y, if_pos v, d218, e2, kV_v]
        · rw [if_neg v, if_neg y, if_neg v, d218, e2, kV_v]
    · rw [if_neg z, if_pos rfl, nI_1, al1_n z]
      exact ih (a + 1) f x S (by omega) (by omega) xt hw ww.up
end AL
theorem pc36 (Θ : GP) : PC_36 Θ (gb Θ) (gb Θ + 218) (gb Θ + 234) (Inv Θ) := by
  intro v xs i hI
  obtain ⟨S, ω, rfl, hC, hI⟩ := hI
  have h6 := hC.O
  obtain ⟨lw, hL⟩ := hC.lw
  show stI (gb Θ) (gb Θ + 218) (fun ω n => F_X10_all Θ (gb Θ) (bI (xs (i + 1))) ω n) (fun ω n => F_X11_all Θ (gb Θ + 218) (bI (xs (i + 1))) ω n) (Inv Θ) _
  generalize bI (xs (i + 1)) = l1
  refine fin_I fun n _ => ?_
  have aw : AW (zA S 219) (zA S 219) lw 0 := ⟨hC.1.1, hL.2, fun _ _ => rfl⟩
  obtain ⟨xl, ld⟩ := x_laid hC hL
  obtain ⟨S1, e1, x1⟩ := x_all_L (Θ := Θ) (n := n) hC (l1 := l1) (cO' (zA S 219)) 0 5000 (zA S 219, 0) _ (by omega) (by omega) xl ld aw
  have hR : isR 202 := Or.inl rfl
  have hC1 := hC.kp (x1.kp hR)
  have hI1 := x1.idle hR hI
  have h9 : zA S1 219 = zA S 219 := x1.2.1 219 (by omega)
  refine ⟨(alL l1 lw (cO' (zA S 219)) 0 (zA S 219, 0)).2, S1, ω, n, ?_, fun n2 => ?_⟩
  · show F_X10_all Θ (gb Θ) l1 (laz Θ S ω) n = _
    unfold F_X10_all
    rw [r10_8, d202, x_lay hR, kV_v]
    exact e1
  · let S2 := uA (uF S1 218 0 0) 222 (fun j => if j < 305 then zA S1 219 j else zA S1 222 j)
    have k2 : Kp S1 S2 := ((KK.rf S1).nF rfl).nA rfl
    have i2 : Idle Θ S2 := (hI1.nF (by omega)).nA (by decide)
    obtain ⟨S3, e3, x3, w3⟩ := m_all_L (Θ := Θ) (S0 := S2) (ω := ω) (n := n2) (lw := lw) hC.1.1 i2.2.2.1 i2.2.2.2 (fun j hj => by
      show zA S2 222 j = _
      rw [zA_eq, if_pos hj, h9]) (l1 := l1) (cO' (zA S 219)) 0 5000 (zA S 219, 0) S2 (by omega) (by omega) (XT.rf S2) h9 aw
    have x3' := x3.xp (w3.trans h9.symm)
    refine ⟨S3, n2, ?_, (hC1.kp k2).kp x3'.kp, x3'.idle i2⟩
    show F_X11_all Θ (gb Θ + 218) l1 (laz Θ S1 ω) n2 = _
    unfold F_X11_all F_X11_screamers
    rw [b218_0, d218, d218, m_keepsAll, kV_v]
    have e3 : L_X11_screamers_8 Θ 5000 (gb Θ + 218) l1 0 0 (laz Θ (uA (uF S1 218 0 0) 222 (fun j => if j < 305 then zA (uF S1 218 0 0) 219 j else zA (uF S1 218 0 0) 222 j)) ω) n2 = _ := e3
    rw [e3, kI_v]
