/-! promise 26: swap -/
def swI (a b : Nat) (x : Int32) : Int32 := if x = nI a then nI b else if x = nI b then nI a else x
def swW (w : Nat → Int32) (a b : Nat) : Nat → Int32 := fun k => if k % 4 = 0 ∧ 12 ≤ k ∧ (k - 12) / 4 < cP w then swI a b (w k) else w k
theorem swI_swI (a b : Nat) (x : Int32) : swI a b (swI a b x) = x := by
  unfold swI
  by_cases h1 : x = nI a
  · rw [if_pos h1]
    by_cases h2 : nI b = nI a
    · rw [if_pos h2, h1, h2]
    · rw [if_neg h2, if_pos rfl, h1]
  · rw [if_neg h1]
    by_cases h2 : x = nI b
    · rw [if_pos h2, if_pos rfl, h2]
    · rw [if_neg h2, if_neg h1, if_neg h2]
theorem swI_m1 {a b : Nat} (ha : a < 10) (hb : b < 10) : swI a b (-1) = -1 := by
  unfold swI
  rw [if_neg (fun u => (q_m1' (by omega)).mp u), if_neg (fun u => (q_m1' (by omega)).mp u)]
theorem swI_rg {a b : Nat} (ha : a < 10) (hb : b < 10) {x : Int32} (h : Rg x 9) : Rg (swI a b x) 9 := by
  unfold swI
  split
  · exact ⟨b, by omega, rfl⟩
  · split
    · exact ⟨a, by omega, rfl⟩
    · exact h
theorem swI_iff {a b : Nat} {x y : Int32} : swI a b x = y ↔ x = swI a b y := by
  constructor
  · intro h; rw [← h, swI_swI]
  · intro h; rw [h, swI_swI]
section SW
variable {w : Nat → Int32} {a b : Nat}
theorem swW_at {p : Nat} (hp : p < cP w) : swW w a b (4 * p + 12) = swI a b (w (4 * p + 12)) := by
  unfold swW
  rw [if_pos ⟨by omega, by omega, by omega⟩]
theorem swW_ne {k : Nat} (h : ∀ p, p < cP w → k ≠ 4 * p + 12) : swW w a b k = w k := by
  unfold swW
  rw [if_neg]
  rintro ⟨h1, h2, h3⟩
  exact h ((k - 12) / 4) h3 (by omega)
theorem swW_cP (h8 : cP w ≤ 8) : cP (swW w a b) = cP w := by
  unfold cP
  rw [swW_ne (fun p _ => by omega)]
theorem swW_sw (h8 : cP w ≤ 8) : swW (swW w a b) a b = w := by
  funext k
  by_cases z : ∃ p, p < cP w ∧ k = 4 * p + 12
  · obtain ⟨p, hp, rfl⟩ := z
    rw [swW_at (by rw [swW_cP h8]; exact hp), swW_at hp, swI_swI]
  · rw [swW_ne (fun p hp e => z ⟨p, by rw [swW_cP h8] at hp; exact hp, e⟩), swW_ne (fun p hp e => z ⟨p, hp, e⟩)]
theorem swW_wb (hW : WB w) (ha : a < 10) (hb : b < 10) : WB (swW w a b) := by
  have h8 := hW.P8
  obtain ⟨h0, h1, h2, h4, h5, h6, h7, hp, hq, hd⟩ := hW
  refine ⟨by rw [swW_ne (fun p _ => by omega)]; exact h0, by rw [swW_ne (fun p _ => by omega)]; exact h1, by rw [swW_ne (fun p _ => by omega)]; exact h2, by rw [swW_ne (fun p _ => by omega)]; exact h4, by rw [swW_ne (fun p _ => by omega)]; exact h5, by rw [swW_ne (fun p _ => by omega)]; exact h6, by rw [swW_ne (fun p _ => by omega)]; exact h7, fun p z => ?_, fun o z => ?_, fun p q z y x => ?_⟩
  · obtain ⟨a1, a2, a3, a4⟩ := hp p z
    refine ⟨by rw [swW_ne (fun q _ => by omega)]; exact a1, by rw [swW_ne (fun q _ => by omega)]; exact a2, by rw [swW_ne (fun q _ => by omega)]; exact a3, ?_⟩
    by_cases y : p < cP w
    · rw [swW_at y]
      rcases a4 with a4 | a4
      · rw [a4, swI_m1 ha hb]; exact Or.inl rfl
      · exact Or.inr (swI_rg ha hb a4)
    · rw [swW_ne (fun q hq => by omega)]; exact a4
  · rw [swW_ne (fun q _ => by omega), swW_ne (fun q _ => by omega), swW_ne (fun q _ => by omega), swW_ne (fun q hq => by omega)]
    exact hq o z
  · rw [swW_cP h8.2] at y
    rw [swW_at (by omega), swW_at y] at x
    rw [swW_at (by omega)]
    have := hd p q z y (by have e := congrArg (swI a b) x; rw [swI_swI, swI_swI] at e; exact e)
    rw [this, swI_m1 ha hb]
theorem swW_law {lw : LW} (hM : LawM w lw) (h8 : cP w ≤ 8) : LawM (swW w a b) lw := hM.congr (fun k hk => swW_ne (fun p hp => by omega))
theorem swW_sm (h8 : cP w ≤ 8) : SmO w (swW w a b) := ⟨swW_ne (fun p _ => by omega), fun o ho => ⟨swW_ne (fun p _ => by omega), swW_ne (fun p _ => by omega), swW_ne (fun p _ => by omega), swW_ne (fun p hp => by omega)⟩⟩
theorem pinL_sw (s : Int32) : ∀ (k p : Nat), p + k ≤ cP w → pinL (swW w a b) s k p = pinL w (swI a b s) k p := by
  intro k
  induction k with
  | zero => intro p _; rfl
  | succ k ih =>
    intro p hp
    unfold pinL
    rw [swW_at (by omega), ih (p + 1) (by omega)]
    by_cases z : w (4 * p + 12) = swI a b s
    · rw [if_pos z, if_pos (swI_iff.mpr z)]
    · rw [if_neg z, if_neg (fun u => z (swI_iff.mp u))]
theorem pin_sw (h8 : cP w ≤ 8) (s : Int32) : pin (swW w a b) s = pin w (swI a b s) := by
  have e := pinL_sw (w := w) (a := a) (b := b) s (cP w) 0 (by omega)
  unfold pin
  rw [swW_ne (fun p _ => by omega)]
  exact e
/-- two empty slots: nothing changes -/
theorem swW_id (hW : WB w) (h1 : pin w (nI a) = -1) (h2 : pin w (nI b) = -1) : swW w a b = w := by
  funext k
  by_cases z : ∃ p, p < cP w ∧ k = 4 * p + 12
  · obtain ⟨p, hp, rfl⟩ := z
    rw [swW_at hp]
    unfold swI
    have h8 := hW.P8
    rcases pin_cases w (nI a) with ⟨_, x1⟩ | ⟨q, q1, q2, _⟩
    · rcases pin_cases w (nI b) with ⟨_, x2⟩ | ⟨q, q1, q2, _⟩
      · rw [if_neg (x1 p hp), if_neg (x2 p hp)]
      · rw [q2] at h2; exact ((q_m1 (by omega)).mp h2).elim
    · rw [q2] at h1; exact ((q_m1 (by omega)).mp h1).elim
  · exact swW_ne (fun p hp e => z ⟨p, hp, e⟩)
end SW
section SX
variable {Θ : GP} {S S0 : PZ} {ω : OW} {n : Nat} {w : Nat → Int32} {lw : LW} {a b : Nat}
theorem m_changes (hw : zA S 219 = w) (hW : WB w) (ha : a < 10) (hb : b < 10) (hab : a ≠ b) : F_X11_changes Θ (gb Θ + 218) (nI a) (nI b) (laz Θ S ω) n = some (.inl (none, laz Θ (uA S 219 (swW w a b)) ω, n)) := by
  have h8 := hW.P8
  have hn : ¬ nI b = nI a := fun u => hab ((nI_eq (by omega) (by omega)).mp u).symm
  have uni : ∀ {p q s : Nat}, p < cP w → q < cP w → s < 10 → w (4 * p + 12) = nI s → w (4 * q + 12) = nI s → p = q := by
    intro p q s hp hq hs e1 e2
    have x1 := pin_of hW hp (show s < 2 ^ 31 by omega) e1
    have x2 := pin_of hW hq (show s < 2 ^ 31 by omega) e2
    rw [x1] at x2
    exact (nI_eq (by omega) (by omega)).mp x2
  unfold F_X11_changes J_X11_changes_29 J_X11_changes_47 F_X11_propAt
  rw [d218, m_propIn' hw hW, kI_v, d218, m_propIn' hw hW, kI_v]
  rcases pin_cases w (nI a) with ⟨z1, y1⟩ | ⟨p, p1, p2, p3⟩
  · rcases pin_cases w (nI b) with ⟨z2, y2⟩ | ⟨q, q1, q2, q3⟩
    · have e : uA S 219 (swW w a b) = S := by rw [swW_id hW z1 z2, ← hw, uA_self]
      rw [z1, if_pos rfl, z2, if_pos rfl, e]
    · have e : upd w (4 * q + 12) (nI a) = swW w a b := by
        funext k
        by_cases z : ∃ r, r < cP w ∧ k = 4 * r + 12
        · obtain ⟨r, hr, rfl⟩ := z
          rw [swW_at hr]
          unfold swI
          by_cases x : r = q
          · subst x; rw [upd_same, q3, if_neg hn, if_pos rfl]
          · rw [upd_ne _ _ (by omega), if_neg (y1 r hr), if_neg (fun u => x (uni hr q1 hb u q3))]
        · rw [swW_ne (fun r hr e => z ⟨r, hr, e⟩), upd_ne _ _ (fun e => z ⟨q, q1, e⟩)]
      rw [z1, if_pos rfl, q2, if_neg (show ¬ nI q = -1 by rw [q_m1 (by omega)]; exact id), a218_1, kI_v, ixp3, s_219 (by omega), hw, e]
  · rw [p2, if_neg (show ¬ nI p = -1 by rw [q_m1 (by omega)]; exact id), a218_1, kI_v, ixp3, s_219 (by omega), hw]
    rcases pin_cases w (nI b) with ⟨z2, y2⟩ | ⟨q, q1, q2, q3⟩
    · have e : upd w (4 * p + 12) (nI b) = swW w a b := by
        funext k
        by_cases z : ∃ r, r < cP w ∧ k = 4 * r + 12
        · obtain ⟨r, hr, rfl⟩ := z
          rw [swW_at hr]
          unfold swI
          by_cases x : r = p
          · subst x; rw [upd_same, p3, if_pos rfl]
          · rw [upd_ne _ _ (by omega), if_neg (fun u => x (uni hr p1 ha u p3)), if_neg (y2 r hr)]
        · rw [swW_ne (fun r hr e => z ⟨r, hr, e⟩), upd_ne _ _ (fun e => z ⟨p, p1, e⟩)]
      rw [z2, if_pos rfl, e]
    · have hpq : q ≠ p := fun e => hn (by rw [← q3, ← p3, e])
      have e : upd (upd w (4 * p + 12) (nI b)) (4 * q + 12) (nI a) = swW w a b := by
        funext k
        by_cases z : ∃ r, r < cP w ∧ k = 4 * r + 12
        · obtain ⟨r, hr, rfl⟩ := z
          rw [swW_at hr]
          unfold swI
          by_cases x : r = q
          · subst x; rw [upd_same, q3, if_neg hn, if_pos rfl]
          · rw [upd_ne _ _ (by omega)]
            by_cases y : r = p
            · subst y; rw [upd_same, p3, if_pos rfl]
            · rw [upd_ne _ _ (by omega), if_neg (fun u => y (uni hr p1 ha u p3)), if_neg (fun u => x (uni hr q1 hb u q3))]
        · rw [swW_ne (fun r hr e => z ⟨r, hr, e⟩), upd_ne _ _ (fun e => z ⟨q, q1, e⟩), upd_ne _ _ (fun e => z ⟨p, p1, e⟩)]
      rw [q2, if_neg (show ¬ nI q = -1 by rw [q_m1 (by omega)]; exact id), a218_1, kI_v, ixp3, s_219 (by omega), uA_uA, zA_eq, e]
theorem XY.back {S' : PZ} {w' : Nat → Int32} (h : XY (uA S 219 w') S') (hw : zA S 219 = w) : XY S (uA S' 219 w) := by
  refine ⟨h.1, fun k a b c d => ?_, h.2.2.1, h.2.2.2⟩
  by_cases z : k = 219
  · subst z; rw [zA_eq, hw]
  · rw [zA_ne _ _ z, h.2.1 k a b c d, zA_ne _ _ z]
/-- a pair of slots -/
noncomputable def sw1 (w : Nat → Int32) (lw : LW) (a b : Nat) (q : Int32 × Int32) : Int32 × Int32 := if gpW (swW w a b) lw ≤ q.2 then q else ((10 * nI a) + nI b, gpW (swW w a b) lw)
noncomputable def swL (w : Nat → Int32) (lw : LW) (a : Nat) : Nat → Nat → Int32 × Int32 → Int32 × Int32
  | 0, _, q => q
  | m + 1, b, q => swL w lw a m (b + 1) (sw1 w lw a b q)
noncomputable def swO (w : Nat → Int32) (lw : LW) : Nat → Nat → Int32 × Int32 → Int32
  | 0, _, q => q.1
  | m + 1, a, q => swO w lw m (a + 1) (swL w lw a (9 - a) (a + 1) q)
theorem le_trans32 {x y z : Int32} (h1 : x ≤ y) (h2 : y ≤ z) : x ≤ z := by
  rw [Int32.le_iff_toInt_le] at *; omega
theorem nle_32 {x y : Int32} (h : ¬ x ≤ y) : y ≤ x ∧ y < x := by
  rw [Int32.le_iff_toInt_le] at *
  rw [Int32.lt_iff_toInt_lt]; omega
theorem sw1_le {q : Int32 × Int32} {x : Int32} (h : x ≤ q.2) : x ≤ (sw1 w lw a b q).2 := by
  unfold sw1
  split
  · exact h
  · rename_i z; exact le_trans32 h (nle_32 z).1
theorem swL_le {x : Int32} : ∀ (m b : Nat) (q : Int32 × Int32), x ≤ q.2 → x ≤ (swL w lw a m b q).2 := by
  intro m
  induction m with
  | zero => intro b q h; exact h
  | succ m ih => intro b q h; exact ih (b + 1) _ (sw1_le h)
theorem m_sw25_L (hW : WB w) (hM : LawM w lw) {K : Nat → Int32 → Int32 → Int32 → OW → Nat → RO} (ha : a < 10) : ∀ (m b f : Nat) (q : Int32 × Int32) (S : PZ), b + m = 10 → a < b → m < f → zA S 219 = w → ∃ S', L_X11_swap_25 Θ K f (gb Θ + 218) q.1 q.2 (nI a) (nI b) (laz Θ S ω) n = K (gb Θ + 218) (swL w lw a m b q).1 (swL w lw a m b q).2 (nI (a + 1)) (laz Θ S' ω) n ∧ XY S S' := by
  have h8 := hW.P8
  intro m
  induction m with
  | zero =>
    intro b f q S h1 hab h2 hw
    obtain ⟨f, rfl⟩ : ∃ g, f = g + 1 := ⟨f - 1, by omega⟩
    refine ⟨S, ?_, XY.rf S⟩
    unfold L_X11_swap_25 B_X11_swap_25
    rw [if_pos (show (10 : Int32) ≤ nI b from nI_le (a := 10) (by omega) (by omega)), nI_1]
    rfl
  | succ m ih =>
    intro b f q S h1 hab h2 hw
    obtain ⟨f, rfl⟩ : ∃ g, f = g + 1 := ⟨f - 1, by omega⟩
    have hb : b < 10 := by omega
    have hW' := swW_wb hW ha hb
    have hM' := swW_law (a := a) (b := b) hM h8.2
    obtain ⟨S1, e1, x1⟩ := m_gapNow (Θ := Θ) (S := uA S 219 (swW w a b)) (ω := ω) (n := n) (w := swW w a b) (lw := lw) (zA_eq _ _ _) hW' hM'
    have w1 : zA S1 219 = swW w a b := by rw [x1.2.1 219 (by decide) (by decide) (by decide) (by decide), zA_eq]
    have e2 := m_changes (Θ := Θ) (S := S1) (ω := ω) (n := n) w1 hW' ha hb (by omega)
    rw [swW_sw h8.2] at e2
    have x2 := x1.back hw
    obtain ⟨S3, e3, x3⟩ := ih (b + 1) f (sw1 w lw a b q) (uA S1 219 w) (by omega) (by omega) (by omega) (zA_eq _ _ _)
    refine ⟨S3, ?_, x2.trans x3⟩
    rw [show L_X11_swap_25 Θ K (f + 1) (gb Θ + 218) q.1 q.2 (nI a) (nI b) (laz Θ S ω) n = B_X11_swap_25 Θ K (L_X11_swap_25 Θ K f) (gb Θ + 218) q.1 q.2 (nI a) (nI b) (laz Θ S ω) n from rfl, show swL w lw a (m + 1) b q = swL w lw a m (b + 1) (sw1 w lw a b q) from rfl, ← e3]
    unfold B_X11_swap_25 J_X11_swap_69
    rw [if_neg (show ¬ (10 : Int32) ≤ nI b from nI_ge (b := 10) (by omega) (by omega)), d218, m_changes hw hW ha hb (by omega), kV_v, d218, e1, kI_v, d218, e2, kV_v, nI_1]
    unfold sw1
    by_cases z : gpW (swW w a b) lw ≤ q.2
    · rw [if_pos z, if_pos z, if_neg (q_nlt.mpr z)]
    · rw [if_neg z, if_neg z, if_pos (nle_32 z).2]
theorem m_sw14_L (hW : WB w) (hM : LawM w lw) : ∀ (m a f : Nat) (q : Int32 × Int32) (S : PZ), a + m = 10 → m < f → zA S 219 = w → ∃ S', L_X11_swap_14 Θ f (gb Θ + 218) q.1 q.2 (nI a) (laz Θ S ω) n = some (.inl (some (.int (swO w lw m a q)), laz Θ S' ω, n)) ∧ XY S S' := by
  intro m
  induction m with
  | zero =>
    intro a f q S h1 h2 hw
    obtain ⟨f, rfl⟩ : ∃ g, f = g + 1 := ⟨f - 1, by omega⟩
    refine ⟨S, ?_, XY.rf S⟩
    unfold L_X11_swap_14 B_X11_swap_14
    rw [if_pos (show (10 : Int32) ≤ nI a from nI_le (a := 10) (by omega) (by omega))]
    rfl
  | succ m ih =>
    intro a f q S h1 h2 hw
    obtain ⟨f, rfl⟩ : ∃ g, f = g + 1 := ⟨f - 1, by omega⟩
    obtain ⟨S1, e1, x1⟩ := m_sw25_L (Θ := Θ) (ω := ω) (n := n) (a := a) hW hM (K := L_X11_swap_14 Θ f) (by omega) (9 - a) (a + 1) 5000 q S (by omega) (by omega) (by omega) hw
    obtain ⟨S2, e2, x2⟩ := ih (a + 1) f (swL w lw a (9 - a) (a + 1) q) S1 (by omega) (by omega) ((x1.2.1 219 (by decide) (by decide) (by decide) (by decide)).trans hw)
    refine ⟨S2, ?_, x1.trans x2⟩
    rw [show L_X11_swap_14 Θ (f + 1) (gb Θ + 218) q.1 q.2 (nI a) (laz Θ S ω) n = B_X11_swap_14 Θ (L_X11_swap_14 Θ f) (gb Θ + 218) q.1 q.2 (nI a) (laz Θ S ω) n from rfl]
    unfold B_X11_swap_14
    rw [if_neg (show ¬ (10 : Int32) ≤ nI a from nI_ge (b := 10) (by omega) (by omega)), nI_1, e1, e2]
    rfl
theorem x_change (ha : a < 10) (hb : b < 10) : F_X6_changeAbout Θ (gb Θ + 202) (nI a) (nI b) (laz Θ S ω) n = some (.inl (none, laz Θ (uA S 203 (upd (upd (zA S 203) a (zA S 203 b)) b (zA S 203 a))) ω, n)) := by
  unfold F_X6_changeAbout
  rw [a202_1, l_203 ha, a202_1, a202_1, l_203 hb, s_203 ha, a202_1, s_203 hb, uA_uA, zA_eq]
theorem RLd.sw (hW : WB w) (h : RLd Θ S ω w lw (fun s => pin w (nI s)) (fun _ => false)) (ha : a < 10) (hb : b < 10) : RLd Θ (uA S 203 (upd (upd (zA S 203) a (zA S 203 b)) b (zA S 203 a))) ω (swW w a b) lw (fun s => pin (swW w a b) (nI s)) (fun _ => false) := by
  have h8 := hW.P8
  obtain ⟨h1, h2, h3, h4, h5⟩ := h
  refine ⟨h1, by rw [swW_ne (fun p _ => by omega)]; exact h2, fun p hp => ?_, fun s hs => ?_, h5⟩
  · rw [swW_cP h8.2] at hp
    rw [swW_ne (fun q _ => by omega), swW_ne (fun q _ => by omega), swW_ne (fun q _ => by omega)]
    exact h3 p hp
  · rw [zA_eq]
    show _ = pin (swW w a b) (nI s)
    rw [pin_sw h8.2]
    unfold swI
    by_cases x : s = b
    · subst x
      rw [upd_same, h4 a ha]
      by_cases y : nI s = nI a
      · rw [if_pos y, y]
      · rw [if_neg y, if_pos rfl]
    · rw [upd_ne _ _ x]
      by_cases y : s = a
      · subst y; rw [upd_same, if_pos rfl]; exact h4 b hb
      · rw [upd_ne _ _ y, if_neg (fun u => y ((nI_eq (by omega) (by omega)).mp u)), if_neg (fun u => x ((nI_eq (by omega) (by omega)).mp u))]
        exact h4 s hs
theorem x_sw27_L (hC : Core Θ S0 ω) (hM : LawM (zA S0 219) lw) {K : Nat → Int32 → Int32 → Int32 → OW → Nat → RO} (ha : a < 10) : ∀ (m b f : Nat) (q : Int32 × Int32) (S : PZ), b + m = 10 → a < b → m < f → gpW (zA S0 219) lw ≤ q.2 → XKw S0 S → RLd Θ S ω (zA S0 219) lw (fun s => pin (zA S0 219) (nI s)) (fun _ => false) → IdW Θ S → ∃ S', L_X10_swap_27 Θ K f (gb Θ) q.1 q.2 (nI a) (nI b) (laz Θ S ω) n = K (gb Θ) (swL (zA S0 219) lw a m b q).1 (swL (zA S0 219) lw a m b q).2 (nI (a + 1)) (laz Θ S' ω) n ∧ XKw S0 S' ∧ RLd Θ S' ω (zA S0 219) lw (fun s => pin (zA S0 219) (nI s)) (fun _ => false) ∧ IdW Θ S' := by
  have hW := hC.1.1
  have h8 := hW.P8
  intro m
  induction m with
  | zero =>
    intro b f q S h1 hab h2 hg xk hl hi
    obtain ⟨f, rfl⟩ : ∃ g, f = g + 1 := ⟨f - 1, by omega⟩
    refine ⟨S, ?_, xk, hl, hi⟩
    unfold L_X10_swap_27 B_X10_swap_27
    rw [if_pos (show (10 : Int32) ≤ nI b from nI_le (a := 10) (by omega) (by omega)), nI_1]
    rfl
  | succ m ih =>
    intro b f q S h1 hab h2 hg xk hl hi
    obtain ⟨f, rfl⟩ : ∃ g, f = g + 1 := ⟨f - 1, by omega⟩
    have hb : b < 10 := by omega
    rw [show L_X10_swap_27 Θ K (f + 1) (gb Θ) q.1 q.2 (nI a) (nI b) (laz Θ S ω) n = B_X10_swap_27 Θ K (L_X10_swap_27 Θ K f) (gb Θ) q.1 q.2 (nI a) (nI b) (laz Θ S ω) n from rfl, show swL (zA S0 219) lw a (m + 1) b q = swL (zA S0 219) lw a m (b + 1) (sw1 (zA S0 219) lw a b q) from rfl]
    unfold B_X10_swap_27 J_X10_swap_102
    rw [if_neg (show ¬ (10 : Int32) ≤ nI b from nI_ge (b := 10) (by omega) (by omega)), r10_8, a202_1, l_203 ha, r10_8, a202_1, l_203 hb, hl.2.2.2.1 a ha, hl.2.2.2.1 b hb, nI_1]
    by_cases z : pin (zA S0 219) (nI a) = pin (zA S0 219) (nI b)
    · have h1 : pin (zA S0 219) (nI a) = -1 := by
        rcases pin_cases (zA S0 219) (nI a) with ⟨y, _⟩ | ⟨p, p1, p2, p3⟩
        · exact y
        · rcases pin_cases (zA S0 219) (nI b) with ⟨y, _⟩ | ⟨r, r1, r2, r3⟩
          · rw [z, y]
          · rw [p2, r2] at z
            have := (nI_eq (by omega) (by omega)).mp z
            subst this
            rw [p3] at r3
            exact absurd ((nI_eq (by omega) (by omega)).mp r3) (by omega)
      have es : sw1 (zA S0 219) lw a b q = q := by
        unfold sw1
        rw [swW_id hW h1 (by rw [← z]; exact h1), if_pos hg]
      rw [if_pos z, es]
      exact ih (b + 1) f q S (by omega) (by omega) (by omega) hg xk hl hi
    · have hl' := hl.sw (a := a) (b := b) hW ha hb
      have xl1 : XL 202 S (uA S 203 (upd (upd (zA S 203) a (zA S 203 b)) b (zA S 203 a))) := (XL.rf 202 S).nA (by omega)
      obtain ⟨S1, e1, x1, i1⟩ := x_gapAsLaid (Θ := Θ) (n := n) hC (swW_wb hW ha hb) (swW_law hM h8.2) (swW_sm h8.2) (xk.trans xl1.xk) hl' (hi.xl xl1)
      have hl1 := hl'.xw x1
      have hl2 := hl1.sw (a := a) (b := b) (swW_wb hW ha hb) ha hb
      rw [swW_sw h8.2] at hl2
      have xl2 : XL 202 S1 (uA S1 203 (upd (upd (zA S1 203) a (zA S1 203 b)) b (zA S1 203 a))) := (XL.rf 202 S1).nA (by omega)
      have xk2 := ((xk.trans xl1.xk).trans x1.xk).trans xl2.xk
      have i2 := i1.xl xl2
      obtain ⟨S3, e3, o3⟩ := ih (b + 1) f (sw1 (zA S0 219) lw a b q) _ (by omega) (by omega) (by omega) (sw1_le hg) xk2 hl2 i2
      refine ⟨S3, ?_, o3⟩
      rw [if_neg z, r10_8, d202, x_change ha hb, kV_v, c10, e1, kI_v, r10_8, d202, x_change ha hb, kV_v, ← e3]
      unfold sw1
      by_cases y : gpW (swW (zA S0 219) a b) lw ≤ q.2
      · rw [if_pos y, if_pos y]
      · rw [if_neg y, if_neg y]
theorem x_sw16_L (hC : Core Θ S0 ω) (hM : LawM (zA S0 219) lw) : ∀ (m a f : Nat) (q : Int32 × Int32) (S : PZ), a + m = 10 → m < f → gpW (zA S0 219) lw ≤ q.2 → XKw S0 S → RLd Θ S ω (zA S0 219) lw (fun s => pin (zA S0 219) (nI s)) (fun _ => false) → IdW Θ S → ∃ S', L_X10_swap_16 Θ f (gb Θ) q.1 q.2 (nI a) (laz Θ S ω) n = some (.inl (some (.int (swO (zA S0 219) lw m a q)), laz Θ S' ω, n)) ∧ XKw S0 S' ∧ IdW Θ S' := by
  intro m
  induction m with
  | zero =>
    intro a f q S h1 h2 hg xk hl hi
    obtain ⟨f, rfl⟩ : ∃ g, f = g + 1 := ⟨f - 1, by omega⟩
    refine ⟨S, ?_, xk, hi⟩
    unfold L_X10_swap_16 B_X10_swap_16
    rw [if_pos (show (10 : Int32) ≤ nI a from nI_le (a := 10) (by omega) (by omega))]
    rfl
  | succ m ih =>
    intro a f q S h1 h2 hg xk hl hi
    obtain ⟨f, rfl⟩ : ∃ g, f = g + 1 := ⟨f - 1, by omega⟩
    obtain ⟨S1, e1, x1, l1, i1⟩ := x_sw27_L (Θ := Θ) (n := n) (a := a) hC hM (K := L_X10_swap_16 Θ f) (by omega) (9 - a) (a + 1) 5000 q S (by omega) (by omega) (by omega) hg xk hl hi
    obtain ⟨S2, e2, o2⟩ := ih (a + 1) f (swL (zA S0 219) lw a (9 - a) (a + 1) q) S1 (by omega) (by omega) (swL_le _ _ _ hg) x1 l1 i1
    refine ⟨S2, ?_, o2⟩
    rw [show L_X10_swap_16 Θ (f + 1) (gb Θ) q.1 q.2 (nI a) (laz Θ S ω) n = B_X10_swap_16 Θ (L_X10_swap_16 Θ f) (gb Θ) q.1 q.2 (nI a) (laz Θ S ω) n from rfl]
    unfold B_X10_swap_16
    rw [if_neg (show ¬ (10 : Int32) ≤ nI a from nI_ge (b := 10) (by omega) (by omega)), nI_1, e1, e2]
    rfl
end SX
theorem le_rf32 (x : Int32) : x ≤ x := by rw [Int32.le_iff_toInt_le]; omega
theorem pc24 (Θ : GP) : PC_24 Θ (gb Θ) (gb Θ + 218) (gb Θ + 234) (Inv Θ) := by
  intro v xs i hI
  obtain ⟨S, ω, rfl, hC, hI⟩ := hI
  obtain ⟨lw, hL⟩ := hC.lw
  show stI (gb Θ) (gb Θ + 218) (fun ω n => F_X10_swap Θ (gb Θ) ω n) (fun ω n => F_X11_swap Θ (gb Θ + 218) ω n) (Inv Θ) _
  refine fin_I fun n _ => ?_
  obtain ⟨S1, e1, x1, l1, i1⟩ := x_ldy (n := n) hC hI hL
  obtain ⟨S2, e2, x2, i2⟩ := x_gapAsLaid (Θ := Θ) (n := n) hC hC.1.1 hL.2 (SmO.rf _) x1.xk l1 i1
  obtain ⟨S3, e3, xk, i3⟩ := x_sw16_L (Θ := Θ) (n := n) hC hL.2 10 0 5000 (-1, gpW (zA S 219) lw) S2 (by omega) (by omega) (le_rf32 _) (x1.xk.trans x2.xk) (l1.xw x2) i2
  have e3 : L_X10_swap_16 Θ 5000 (gb Θ) (-1) (gpW (zA S 219) lw) 0 (laz Θ S2 ω) n = _ := e3
  have hI3 := xk.idle hI i3
  refine ⟨swO (zA S 219) lw 10 0 (-1, gpW (zA S 219) lw), S3, ω, n, ?_, fun n2 => ?_⟩
  · show F_X10_swap Θ (gb Θ) (laz Θ S ω) n = _
    unfold F_X10_swap
    rw [r10_8, d202, e1, kV_v, c10, e2, kI_v, e3]
  · obtain ⟨S4, e4, x4⟩ := m_gapNow (Θ := Θ) (S := uF S3 218 0 0) (ω := ω) (n := n2) (w := zA S 219) (lw := lw) xk.w hC.1.1 hL.2
    obtain ⟨S5, e5, x5⟩ := m_sw14_L (Θ := Θ) (ω := ω) (n := n2) hC.1.1 hL.2 10 0 5000 (-1, gpW (zA S 219) lw) S4 (by omega) (by omega) ((x4.2.1 219 (by decide) (by decide) (by decide) (by decide)).trans xk.w)
    have e5 : L_X11_swap_14 Θ 5000 (gb Θ + 218) (-1) (gpW (zA S 219) lw) 0 (laz Θ S4 ω) n2 = _ := e5
    have x6 := x4.trans x5
    refine ⟨S5, n2, ?_, ((hC.kp xk.kp).thr).kp x6.kp, x6.idle (hI3.thr)⟩
    show F_X11_swap Θ (gb Θ + 218) (laz Θ S3 ω) n2 = _
    unfold F_X11_swap
    rw [b218_0, d218, e4, kI_v, e5]
