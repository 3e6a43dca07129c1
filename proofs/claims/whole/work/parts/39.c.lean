/-! ways and odds on the reference's side -/
theorem lN_div {a b : Nat} (ha : a < 2 ^ 31) (hb : b < 2 ^ 31) : lN a / lN b = lN (a / b) := by
  have hd : a / b ≤ a := Nat.div_le_self a b
  rw [← Int64.toInt_inj, Int64.toInt_div, lN_toInt ha, lN_toInt hb, lN_toInt (by omega)]
  have : (Int.tdiv (a : Int) (b : Int)) = ((a / b : Nat) : Int) := (Int.ofNat_tdiv a b).symm
  rw [this]
  generalize a / b = c at hd ⊢
  exact Int.bmod_eq_of_le (by omega) (by omega)
theorem lN_ne0 {b : Nat} (h0 : 0 < b) (hb : b < 2 ^ 31) : ¬ lN b = 0 := by
  intro h
  have := (lN_eq (b := 0) hb (by omega)).mp h
  omega
noncomputable def odN (c : RPar) : Nat := wyT c ten * 10000 / 3 ^ npS c ten
theorem cnl_le (w : Nat → Int32) : ∀ k, cnl w k ≤ k := by
  intro k
  induction k with
  | zero => exact Nat.le_refl _
  | succ k ih =>
    show cnl w k + (if w (4 * k + 12) = -1 then 0 else 1) ≤ _
    split <;> omega
theorem np_le8 {w : Nat → Int32} (hW : WB w) {c : RPar} (hc : ∀ s, s < 10 → c.2.2.1 s = pin w (nI s)) : npS c ten ≤ 8 := by
  have e := cnl_np hW hc
  have h8 := hW.P8
  have := cnl_le w (cP w)
  rw [ten_eq, ← e]
  omega
theorem p3_le {c : RPar} (h : npS c ten ≤ 8) : 3 ^ npS c ten ≤ 6561 ∧ 0 < 3 ^ npS c ten := ⟨Nat.le_trans (Nat.pow_le_pow_right (by omega) h) (by decide), Nat.pow_pos (by omega)⟩
theorem odN_le {c : RPar} (h8 : npS c ten ≤ 8) (h : nvN c ≤ 60) : odN c ≤ 10000 := by
  have h1 := wyT_le h (s := 10) (by omega)
  have h2 := p3_le h8
  unfold odN
  rw [ten_eq] at *
  refine Nat.div_le_of_le_mul ?_
  rw [Nat.mul_comm (3 ^ npS c 10)]
  rw [Nat.mul_comm]
  exact Nat.mul_le_mul_left _ h1
section WO
variable {Θ : GP} {S S0 : PZ} {ω : OW} {n : Nat} {w : Nat → Int32} {lw : LW} {a : Nat}
theorem m_rows12_L (hw : zA S 219 = w) (hW : WB w) : ∀ (k p f : Nat), p + k = cP w → k < f → L_X11_laysRows_12 Θ f (gb Θ + 218) (nI p) (laz Θ (uF S 218 36 (nI (3 ^ cnl w p))) ω) n = L_X11_laysRows_50 Θ 5000 (gb Θ + 218) 0 (laz Θ (uF S 218 36 (nI (3 ^ cnl w (cP w)))) ω) n := by
  have h8 := hW.P8
  intro k
  induction k with
  | zero =>
    intro p f h1 h2
    obtain ⟨f, rfl⟩ : ∃ g, f = g + 1 := ⟨f - 1, by omega⟩
    have hp : p = cP w := by omega
    subst hp
    unfold L_X11_laysRows_12 B_X11_laysRows_12
    rw [d218, m_props, kI_v, zA_uF, hw, h8.1, if_pos (nI_le (by omega) (by omega))]
  | succ k ih =>
    intro p f h1 h2
    obtain ⟨f, rfl⟩ : ∃ g, f = g + 1 := ⟨f - 1, by omega⟩
    have e := ih (p + 1) f (by omega) (by omega)
    rw [show L_X11_laysRows_12 Θ (f + 1) (gb Θ + 218) (nI p) (laz Θ (uF S 218 36 (nI (3 ^ cnl w p))) ω) n = B_X11_laysRows_12 Θ (L_X11_laysRows_12 Θ f) (gb Θ + 218) (nI p) (laz Θ (uF S 218 36 (nI (3 ^ cnl w p))) ω) n from rfl, ← e, show cnl w (p + 1) = cnl w p + (if w (4 * p + 12) = -1 then 0 else 1) from rfl]
    unfold B_X11_laysRows_12 J_X11_laysRows_38
    rw [d218, m_props, kI_v, zA_uF, hw, h8.1, if_neg (nI_ge (by omega) (by omega)), a218_36, zF_eq, d218, m_isNailed (by omega), kI_v, zA_uF, hw, nI_1]
    by_cases z : w (4 * p + 12) = -1
    · rw [if_pos z, if_pos z, if_pos rfl, b218_36, uF_uF, Int32.mul_one, Nat.add_zero (cnl w p)]
    · rw [if_neg z, if_neg z, if_neg (show ¬ (1 : Int32) = 0 by decide), b218_36, uF_uF, show (3 : Int32) = nI 3 from rfl, nI_mul, Nat.pow_succ]
theorem m_rows50_L {v : Int32} (hv : zF S 218 36 = v) : ∀ (m t f : Nat) (g0 : Nat → Int32), t + m = 61 → m < f → ∃ g, L_X11_laysRows_50 Θ f (gb Θ + 218) (nI t) (laz Θ (uA S 230 g0) ω) n = L_X11_laysRows_82 Θ 5000 (gb Θ + 218) 0 (laz Θ (uA S 230 g) ω) n ∧ ∀ u, u ≤ 60 → g u = if u < t then g0 u else if u = 0 then v else 0 := by
  intro m
  induction m with
  | zero =>
    intro t f g0 h1 h2
    obtain ⟨f, rfl⟩ : ∃ g, f = g + 1 := ⟨f - 1, by omega⟩
    refine ⟨g0, ?_, fun u hu => by rw [if_pos (by omega)]⟩
    unfold L_X11_laysRows_50 B_X11_laysRows_50
    rw [if_pos (show (60 : Int32) < nI t from nI_lt (a := 60) (by omega) (by omega))]
  | succ m ih =>
    intro t f g0 h1 h2
    obtain ⟨f, rfl⟩ : ∃ g, f = g + 1 := ⟨f - 1, by omega⟩
    obtain ⟨g, e, hg⟩ := ih (t + 1) f (upd g0 t (if t = 0 then v else 0)) (by omega) (by omega)
    refine ⟨g, ?_, fun u hu => ?_⟩
    · rw [show L_X11_laysRows_50 Θ (f + 1) (gb Θ + 218) (nI t) (laz Θ (uA S 230 g0) ω) n = B_X11_laysRows_50 Θ (L_X11_laysRows_50 Θ f) (gb Θ + 218) (nI t) (laz Θ (uA S 230 g0) ω) n from rfl]
      unfold B_X11_laysRows_50 J_X11_laysRows_73
      rw [if_neg (show ¬ (60 : Int32) < nI t from nI_nlt (a := 60) (by omega) (by omega)), a218_33, nI_1, ← e]
      by_cases z : t = 0
      · subst z
        rw [if_pos (show nI 0 = 0 from rfl), a218_36, zF_uA, hv, s_230 (by omega), uA_uA, zA_eq, if_pos rfl]
      · rw [if_neg (nI_ne0 (by omega) (by omega)), s_230 (by omega), uA_uA, zA_eq, if_neg z]
    · rw [hg u hu]
      by_cases z : u = t
      · subst z; rw [if_pos (by omega), upd_same, if_neg (Nat.lt_irrefl u)]
      · by_cases y : u < t
        · rw [if_pos (by omega), if_pos y, upd_ne _ _ z]
        · rw [if_neg (by omega), if_neg y]
theorem m_rows82_L (hW : WB w) (hM : LawM w lw) (ha : a < 6) : ∀ (m s f : Nat) (S : PZ), s + m = 10 → m < f → XY S0 S → zA S 219 = w → zF S 218 18 = w (4 * a + 41) → zF S 218 19 = w (4 * a + 42) → zF S 218 20 = w (4 * a + 43) → (∀ t, t ≤ 60 → zA S 230 t = nI (wyD (cPar w lw a false false) s t * 3 ^ (npS (cPar w lw a false false) ten - npS (cPar w lw a false false) s))) → (∀ u, u < s → zA S 232 u = nI (wyA (cPar w lw a false false) u)) → ∃ S', L_X11_laysRows_82 Θ f (gb Θ + 218) (nI s) (laz Θ S ω) n = some (.inl (none, laz Θ S' ω, n)) ∧ XY S0 S' ∧ zF S' 218 36 = zF S 218 36 ∧ ∀ u, u < 10 → zA S' 232 u = nI (wyA (cPar w lw a false false) u) := by
  intro m
  induction m with
  | zero =>
    intro s f S h1 h2 xy hw h18 h19 h20 hr hA
    obtain ⟨f, rfl⟩ : ∃ g, f = g + 1 := ⟨f - 1, by omega⟩
    refine ⟨S, ?_, xy, rfl, fun u hu => hA u (by omega)⟩
    unfold L_X11_laysRows_82 B_X11_laysRows_82
    rw [if_pos (show (10 : Int32) ≤ nI s from nI_le (a := 10) (by omega) (by omega))]
  | succ m ih =>
    intro s f S h1 h2 xy hw h18 h19 h20 hr hA
    obtain ⟨f, rfl⟩ : ∃ g, f = g + 1 := ⟨f - 1, by omega⟩
    obtain ⟨S1, e1, x1, k1, o1, s1, r1⟩ := m_laysSlot (Θ := Θ) (ω := ω) (n := n) (s := s) (by omega) hw hW hM ha h18 h19 h20 hr
    obtain ⟨S2, e2, x2, k2, a2⟩ := ih (s + 1) f S1 (by omega) (by omega) (xy.trans x1) ((x1.2.1 219 (by decide) (by decide) (by decide) (by decide)).trans hw) ((k1 18 (by omega) (by omega)).trans h18) ((k1 19 (by omega) (by omega)).trans h19) ((k1 20 (by omega) (by omega)).trans h20) r1 (fun u hu => by
      by_cases z : u = s
      · subst z; exact s1
      · rw [o1 u z]; exact hA u (by omega))
    refine ⟨S2, ?_, x2, k2.trans (k1 36 (by omega) (by omega)), a2⟩
    rw [show L_X11_laysRows_82 Θ (f + 1) (gb Θ + 218) (nI s) (laz Θ S ω) n = B_X11_laysRows_82 Θ (L_X11_laysRows_82 Θ f) (gb Θ + 218) (nI s) (laz Θ S ω) n from rfl]
    unfold B_X11_laysRows_82
    rw [if_neg (show ¬ (10 : Int32) ≤ nI s from nI_ge (b := 10) (by omega) (by omega)), d218, e1, kV_v, nI_1, e2]
theorem m_laysRows (hw : zA S 219 = w) (hW : WB w) (hM : LawM w lw) (ha : a < 6) : ∃ S', F_X11_laysRows Θ (gb Θ + 218) (nI a) (laz Θ S ω) n = some (.inl (none, laz Θ S' ω, n)) ∧ XY S S' ∧ zF S' 218 36 = nI (3 ^ npS (cPar w lw a false false) ten) ∧ ∀ u, u < 10 → zA S' 232 u = nI (wyA (cPar w lw a false false) u) := by
  have h8 := hW.P8
  have en : cnl w (cP w) = npS (cPar w lw a false false) ten := by rw [ten_eq]; exact cnl_np hW (c := cPar w lw a false false) (fun s _ => rfl)
  have e1 : L_X11_laysRows_12 Θ 5000 (gb Θ + 218) 0 (laz Θ (uF (uF (uF (uF S 218 18 (zA S 219 (4 * a + 41))) 218 19 (zA S 219 (4 * a + 42))) 218 20 (zA S 219 (4 * a + 43))) 218 36 1) ω) n = _ := m_rows12_L (Θ := Θ) (S := uF (uF (uF S 218 18 (zA S 219 (4 * a + 41))) 218 19 (zA S 219 (4 * a + 42))) 218 20 (zA S 219 (4 * a + 43))) (ω := ω) (n := n) hw hW (cP w) 0 5000 (by omega) (by omega)
  obtain ⟨g, e2, hg⟩ := m_rows50_L (Θ := Θ) (S := uF (uF (uF (uF S 218 18 (zA S 219 (4 * a + 41))) 218 19 (zA S 219 (4 * a + 42))) 218 20 (zA S 219 (4 * a + 43))) 218 36 (nI (3 ^ cnl w (cP w)))) (ω := ω) (n := n) (v := nI (3 ^ cnl w (cP w))) (zF_eq _ _ _ _) 61 0 5000 (zA (uF (uF (uF (uF S 218 18 (zA S 219 (4 * a + 41))) 218 19 (zA S 219 (4 * a + 42))) 218 20 (zA S 219 (4 * a + 43))) 218 36 (nI (3 ^ cnl w (cP w)))) 230) (by omega) (by omega)
  rw [uA_self] at e2
  have e2 : L_X11_laysRows_50 Θ 5000 (gb Θ + 218) 0 (laz Θ (uF (uF (uF (uF S 218 18 (zA S 219 (4 * a + 41))) 218 19 (zA S 219 (4 * a + 42))) 218 20 (zA S 219 (4 * a + 43))) 218 36 (nI (3 ^ cnl w (cP w)))) ω) n = _ := e2
  have xy0 : XY S (uA (uF (uF (uF (uF S 218 18 (zA S 219 (4 * a + 41))) 218 19 (zA S 219 (4 * a + 42))) 218 20 (zA S 219 (4 * a + 43))) 218 36 (nI (3 ^ cnl w (cP w)))) 230 g) := (((((XY.rf S).nF (by omega)).nF (by omega)).nF (by omega)).nF (by omega)).nA (by omega)
  obtain ⟨S', e3, x3, k3, a3⟩ := m_rows82_L (Θ := Θ) (S0 := S) (ω := ω) (n := n) (a := a) hW hM ha 10 0 5000 (uA (uF (uF (uF (uF S 218 18 (zA S 219 (4 * a + 41))) 218 19 (zA S 219 (4 * a + 42))) 218 20 (zA S 219 (4 * a + 43))) 218 36 (nI (3 ^ cnl w (cP w)))) 230 g) (by omega) (by omega) xy0 hw (by rw [zF_uA, zF_ne _ _ (by omega), zF_ne _ _ (by omega), zF_ne _ _ (by omega), zF_eq, hw]) (by rw [zF_uA, zF_ne _ _ (by omega), zF_ne _ _ (by omega), zF_eq, hw]) (by rw [zF_uA, zF_ne _ _ (by omega), zF_eq, hw]) (fun t ht => by
      rw [zA_eq, hg t ht, if_neg (by omega), en]
      show _ = nI ((if t = 0 then 1 else 0) * 3 ^ (npS (cPar w lw a false false) ten - 0))
      rw [Nat.sub_zero]
      by_cases z : t = 0
      · rw [if_pos z, if_pos z, Nat.one_mul]
      · rw [if_neg z, if_neg z, Nat.zero_mul]; rfl) (fun u hu => by omega)
  have e3 : L_X11_laysRows_82 Θ 5000 (gb Θ + 218) 0 (laz Θ (uA (uF (uF (uF (uF S 218 18 (zA S 219 (4 * a + 41))) 218 19 (zA S 219 (4 * a + 42))) 218 20 (zA S 219 (4 * a + 43))) 218 36 (nI (3 ^ cnl w (cP w)))) 230 g) ω) n = _ := e3
  refine ⟨S', ?_, x3, by rw [k3, zF_uA, zF_eq, en], a3⟩
  unfold F_X11_laysRows
  rw [d218, m_looksAt ha, kV_v, b218_36, e1, e2, e3]
theorem m_sum_L (c : RPar) (hA : ∀ u, u < 10 → zA S 232 u = nI (wyA c u)) : ∀ (m s f : Nat), s + m = 10 → m < f → L_X11_waysOf_9 Θ f (gb Θ + 218) (nI (wyT c s)) (nI s) (laz Θ S ω) n = some (.inl (some (.int (nI (wyT c 10))), laz Θ S ω, n)) := by
  intro m
  induction m with
  | zero =>
    intro s f h1 h2
    obtain ⟨f, rfl⟩ : ∃ g, f = g + 1 := ⟨f - 1, by omega⟩
    have : s = 10 := by omega
    subst this
    unfold L_X11_waysOf_9 B_X11_waysOf_9
    rw [if_pos (show (10 : Int32) ≤ nI 10 from nI_le (a := 10) (by omega) (by omega))]
  | succ m ih =>
    intro s f h1 h2
    obtain ⟨f, rfl⟩ : ∃ g, f = g + 1 := ⟨f - 1, by omega⟩
    rw [show L_X11_waysOf_9 Θ (f + 1) (gb Θ + 218) (nI (wyT c s)) (nI s) (laz Θ S ω) n = B_X11_waysOf_9 Θ (L_X11_waysOf_9 Θ f) (gb Θ + 218) (nI (wyT c s)) (nI s) (laz Θ S ω) n from rfl]
    unfold B_X11_waysOf_9
    rw [if_neg (show ¬ (10 : Int32) ≤ nI s from nI_ge (b := 10) (by omega) (by omega)), a218_35, l_232 (by omega), hA s (by omega), nI_add, nI_1]
    exact ih (s + 1) f (by omega) (by omega)
theorem m_waysOf (hw : zA S 219 = w) (hW : WB w) (hM : LawM w lw) (ha : a < 6) : ∃ S', F_X11_waysOf Θ (gb Θ + 218) (nI a) (laz Θ S ω) n = some (.inl (some (.int (nI (wyT (cPar w lw a false false) ten))), laz Θ S' ω, n)) ∧ XY S S' ∧ zF S' 218 36 = nI (3 ^ npS (cPar w lw a false false) ten) := by
  obtain ⟨S', e1, x1, k1, a1⟩ := m_laysRows (Θ := Θ) (ω := ω) (n := n) (a := a) hw hW hM ha
  have e2 : L_X11_waysOf_9 Θ 5000 (gb Θ + 218) 0 0 (laz Θ S' ω) n = _ := m_sum_L (Θ := Θ) (S := S') (ω := ω) (n := n) (cPar w lw a false false) a1 10 0 5000 (by omega) (by omega)
  refine ⟨S', ?_, x1, k1⟩
  unfold F_X11_waysOf
  rw [d218, e1, kV_v, e2, ten_eq]
theorem m_oddsOf (hw : zA S 219 = w) (hW : WB w) (hM : LawM w lw) (ha : a < 6) : ∃ S', F_X11_oddsOf Θ (gb Θ + 218) (nI a) (laz Θ S ω) n = some (.inl (some (.int (nI (odN (cPar w lw a false false)))), laz Θ S' ω, n)) ∧ XY S S' := by
  obtain ⟨S', e1, x1, k1⟩ := m_waysOf (Θ := Θ) (ω := ω) (n := n) (a := a) hw hW hM ha
  have h8 := np_le8 hW (c := cPar w lw a false false) (fun s _ => rfl)
  have h3 := p3_le h8
  have hn := (cPar_ok hW hM ha false false).nv.2
  have hT : wyT (cPar w lw a false false) ten ≤ 3 ^ npS (cPar w lw a false false) ten := by
    have := wyT_le hn (s := ten) (by rw [ten_eq]; omega)
    exact this
  refine ⟨S', ?_, x1⟩
  unfold F_X11_oddsOf odN nzl
  rw [d218, e1, kI_v, a218_36, k1, nI_l (by omega), if_neg (lN_ne0 h3.2 (by omega)), nI_l (by omega), show (10000 : Int64) = lN 10000 from rfl, lN_mul, lN_div (by omega) (by omega), lN_i, Nat.mul_comm 10000]
/-- gap, of those from a on -/
noncomputable def gpS (w : Nat → Int32) (lw : LW) : Nat → Nat → Int32 → Int32
  | 0, _, x => x
  | k + 1, a, x => gpS w lw k (a + 1) (if w (4 * a + 44) = 0 then (if w (4 * a + 41) = 0 then x + nI (odN (cPar w lw a false false)) else x + - nI (odN (cPar w lw a false false))) else x)
end WO
