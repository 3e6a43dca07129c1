/-! the class makes a law out of what it read -/
def dLI : LI := (0, 0, noC)
def mnL (L : List LI) : Nat → (Nat → Int32) → Bool := fun l => (L.getD l dLI).2.2.2.2.2
def tlM : List LI → Nat
  | [] => 0
  | ln :: L => ln.2.2.2.1.length + tlM L
/-- what the reading of lines gives -/
def LwG (x : TX) (q k : Nat) (o : Nat × Option (List LI)) : Prop := o.1 ≤ x.1 ∧ ∀ L, o.2 = some L → L.length ≤ k ∧ q + tlX L ≤ o.1 ∧ q + tlM L ≤ o.1 ∧ ∀ ln ∈ L, okL ln
theorem lwG {x : TX} (hx : x.1 ≤ 400) : ∀ (k q : Nat), q ≤ x.1 → LwG x q k (lwL x k q) := by
  intro k
  induction k with
  | zero => intro q hq; exact ⟨hq, fun L e => by cases e⟩
  | succ k ih =>
    intro q hq
    have hg := liG hx hq
    unfold lwL
    rcases hm : liP x q with ⟨r, _ | ln⟩
    · rw [hm] at hg
      exact ⟨hg.2.1, fun L e => by cases e⟩
    · rw [hm] at hg
      obtain ⟨g1, g2, g3⟩ := hg
      obtain ⟨g4, g5, g6, g7⟩ := g3 ln rfl
      have g4 : q + ln.2.2.1.length ≤ r := g4
      have g5 : q + ln.2.2.2.1.length ≤ r := g5
      have g2 : r ≤ x.1 := g2
      show LwG x q (k + 1) (if x.1 ≤ r then (r, some [ln]) else if isSg x r 59 = true then bnd (lwL x k (skT x (r + 1))) (fun r' L => (r', some (ln :: L))) else (r, none))
      by_cases y : x.1 ≤ r
      · rw [if_pos y]
        refine ⟨g2, fun L e => ?_⟩
        cases e
        refine ⟨by show 1 ≤ k + 1; omega, by show q + (ln.2.2.1.length + 0) ≤ r; omega, by show q + (ln.2.2.2.1.length + 0) ≤ r; omega, fun l hl => ?_⟩
        rcases List.mem_cons.mp hl with rfl | u
        · exact g7
        · cases u
      · rw [if_neg y]
        by_cases z : isSg x r 59 = true
        · rw [if_pos z]
          have hz := sg_q z
          have hs := skT_b (x := x) (p := r + 1) (by omega)
          have hi := ih (skT x (r + 1)) hs.2
          rcases hm2 : lwL x k (skT x (r + 1)) with ⟨r', _ | L'⟩
          · rw [hm2] at hi
            exact ⟨hi.1, fun L e => by cases e⟩
          · rw [hm2] at hi
            obtain ⟨i1, i2⟩ := hi
            obtain ⟨i3, i4, i5, i6⟩ := i2 L' rfl
            have i4 : skT x (r + 1) + tlX L' ≤ r' := i4
            have i5 : skT x (r + 1) + tlM L' ≤ r' := i5
            refine ⟨i1, fun L e => ?_⟩
            cases e
            refine ⟨by rw [List.length_cons]; omega, by show q + (ln.2.2.1.length + tlX L') ≤ r'; omega, by show q + (ln.2.2.2.1.length + tlM L') ≤ r'; omega, fun l hl => ?_⟩
            rcases List.mem_cons.mp hl with rfl | u
            · exact g7
            · exact i6 l u
        · rw [if_neg z]
          exact ⟨g2, fun L e => by cases e⟩
theorem lwPG {x : TX} (hx : x.1 ≤ 400) : LwG x 0 12 (lwP x) := by
  have hs := skT_b (x := x) (Nat.zero_le _)
  unfold lwP
  by_cases y : x.1 ≤ skT x 0
  · rw [if_pos y]
    refine ⟨hs.2, fun L e => ?_⟩
    cases e
    exact ⟨Nat.zero_le _, Nat.zero_le _, Nat.zero_le _, fun ln h => by cases h⟩
  · rw [if_neg y]
    obtain ⟨h1, h2⟩ := lwG hx 12 (skT x 0) hs.2
    refine ⟨h1, fun L e => ?_⟩
    obtain ⟨a, b, c, d⟩ := h2 L e
    exact ⟨a, by omega, by omega, d⟩
theorem getD_ok {L : List LI} (h : ∀ ln ∈ L, okL ln) {j : Nat} (hj : j < L.length) : okL (L.getD j dLI) := by
  rw [List.getD_eq_getElem?_getD, List.getElem?_eq_getElem hj]
  exact h _ (List.getElem_mem hj)
theorem LXr_get {S : PZ} : ∀ (L : List LI) (l s j : Nat), LXr S l s L → j < L.length → ∃ p, (zA S 198 (l + j) = (L.getD j dLI).1 ∧ zA S 199 (l + j) = (L.getD j dLI).2.1 ∧ zA S 200 (l + j) = nI p ∧ zA S 200 (l + j + 1) = nI (p + (L.getD j dLI).2.2.1.length) ∧ lsA (zA S 201) p (L.getD j dLI).2.2.1) ∧ p + (L.getD j dLI).2.2.1.length ≤ s + tlX L := by
  intro L
  induction L with
  | nil => intro l s j _ h; exact absurd h (Nat.not_lt_zero _)
  | cons ln L ih =>
    intro l s j h hj
    cases j with
    | zero => exact ⟨s, h.1, by show s + ln.2.2.1.length ≤ s + (ln.2.2.1.length + tlX L); omega⟩
    | succ j =>
      obtain ⟨p, p1, p2⟩ := ih (l + 1) (s + ln.2.2.1.length) j h.2 (by rw [List.length_cons] at hj; omega)
      rw [show l + 1 + j = l + (j + 1) by omega] at p1
      exact ⟨p, p1, Nat.le_trans p2 (by show s + ln.2.2.1.length + tlX L ≤ s + (ln.2.2.1.length + tlX L); omega)⟩
theorem okL_X {ln : LI} (h : okL ln) {cf : Nat → Int32} {lc p : Nat} (hc : lsA cf p ln.2.2.1) (hl : p + ln.2.2.1.length ≤ lc) (hlc : lc ≤ 408) : EvX cf lc p (p + ln.2.2.1.length) ln.2.2.2.2.2 := by
  intro f hf
  rcases h.2.2 with e | ⟨e, d⟩
  · rw [e]
    exact ⟨0, 1, by omega, ⟨rfl, fun j hj => absurd hj (Nat.not_lt_zero _)⟩, ⟨fun _ => rfl, fun _ => by decide⟩⟩
  · obtain ⟨k, k1, k2⟩ := e.2.2.1 cf f lc p 1 (by omega) hc hl hf (Nat.one_lt_two_pow (by omega))
    refine ⟨k, _, by omega, k2, ?_⟩
    by_cases hb : ln.2.2.2.2.2 f = true
    · rw [if_pos hb]
      exact ⟨fun _ => hb, fun _ => by decide⟩
    · rw [if_neg hb]
      exact ⟨fun u => absurd u (by decide), fun u => absurd u hb⟩
section MD
variable {Θ : GP} {S : PZ} {ω : OW} {n : Nat}
theorem far_no {a : Nat} (h : gb Θ + 234 < a) : notOurs Θ a := by
  rintro ⟨h1, h2⟩
  have hl : kdT.length = 235 := rfl
  have : kdz (a - gb Θ) = 99 := by
    unfold kdz
    rw [List.getD_eq_getElem?_getD, List.getElem?_eq_none (by omega)]
    rfl
  omega
theorem g_upd2 (ω : OW) (a : Nat) (x y : va_E) : g_upd (g_upd ω a x) a y = g_upd ω a y := by
  funext b
  unfold g_upd
  by_cases h : b = a
  · rw [if_pos h, if_pos h]
  · rw [if_neg h, if_neg h, if_neg h]
theorem nw_z {x : va_E} {kk : Nat → OW → Nat → RO} (hn : notOurs Θ n) : nw (laz Θ S ω) n x kk = kk n (laz Θ S (g_upd ω n x)) (n + 1) := by
  unfold nw
  rw [laz_rest Θ S ω hn]
theorem z_wo {a c j : Nat} {fs : List Value} {v : Value} {kk : OW → RO} (hn : notOurs Θ a) (h : ω a = some (.inr (c, fs))) (hj : j < fs.length) : wF (laz Θ S ω) a c j v kk = kk (laz Θ S (g_upd ω a (.inr (c, fs.set j v)))) := by
  unfold wF
  rw [laz_out Θ S ω hn, h]
  dsimp only
  rw [if_pos ⟨rfl, hj⟩, laz_rest Θ S ω hn]
theorem z_ro {a c j : Nat} {fs : List Value} {x : Int32} {kk : Int32 → RO} (hn : notOurs Θ a) (h : ω a = some (.inr (c, fs))) (hj : fs[j]? = some (.int x)) : rI (laz Θ S ω) a c j kk = kk x := by
  unfold rI
  rw [laz_out Θ S ω hn, h]
  dsimp only
  rw [if_pos rfl, hj]
theorem x_copyOf {k c : Nat} (hk : kdz k = 20) (hc : c ≤ alz k) (h5 : alz k ≤ 500) (hn : notOurs Θ n) : ∃ g : Nat → Int32, (∀ j, j < c → g j = zA S k j) ∧ F_J7_copyOf_59c91 Θ (gb Θ + k) (nI c) (laz Θ S ω) n = some (.inl (some (.ref n), laz Θ S (g_upd ω n (.inl (gI Θ, c, .inl g))), n + 1)) := by
  have hne : gb Θ + k ≠ n := fun e => hn (by rw [← e]; exact ⟨Nat.le_add_right _ _, by rw [Nat.add_sub_cancel_left, hk]; decide⟩)
  unfold F_J7_copyOf_59c91
  rw [laz_at Θ S ω (by rw [hk]; decide), cez_ar Θ S hk]
  dsimp only
  rw [if_pos ⟨rfl, nI_pos (by omega), h5, by rw [nI_clamp (by omega)]; omega, hne⟩]
  by_cases e : c = alz k
  · subst e
    refine ⟨zA S k, fun _ _ => rfl, ?_⟩
    rw [if_pos (show nI (alz k) = Int32.ofNat (alz k) from rfl), laz_rest Θ S ω hn]
  · refine ⟨va_cpy (zA S k) (fun _ => 0) 0 0 c, fun j hj => ?_, ?_⟩
    · unfold va_cpy
      rw [if_pos ⟨Nat.zero_le _, by omega⟩]
      show zA S k (0 + (j - 0)) = _
      rw [Nat.zero_add, Nat.sub_zero]
    · rw [if_neg (show ¬ nI c = Int32.ofNat (alz k) from fun u => e ((nI_eq (by omega) (by omega)).mp u)), if_pos (show nI c < Int32.ofNat (alz k) from nI_lt (by omega) (by omega)), nI_clamp (by omega), g_upd2, laz_rest Θ S ω hn]
theorem x_made {l s : Nat} (hf : gb Θ + 234 < n) (hl : l ≤ 12) (hs : s ≤ 408) (h1 : zF S 197 1 = nI l) (h2 : zF S 197 2 = nI s) : ∃ (ω' : OW) (fk fa fs fc : Nat → Int32), F_X3_made Θ (gb Θ + 197) (laz Θ S ω) n = some (.inl (some (.ref n), laz Θ S ω', n + 1 + 1 + 1 + 1 + 1)) ∧ (∀ a, a < n → ω' a = ω a) ∧ (ω' n = some (.inr (2, [.int (nI l), .int 1, .ref (n + 1), .ref (n + 1 + 1), .ref (n + 1 + 1 + 1), .ref (n + 1 + 1 + 1 + 1)])) ∧ ω' (n + 1) = some (.inl (gI Θ, l, .inl fk)) ∧ ω' (n + 1 + 1) = some (.inl (gI Θ, l, .inl fa)) ∧ ω' (n + 1 + 1 + 1) = some (.inl (gI Θ, l + 1, .inl fs)) ∧ ω' (n + 1 + 1 + 1 + 1) = some (.inl (gI Θ, s, .inl fc))) ∧ (∀ j, j < l → fk j = zA S 198 j ∧ fa j = zA S 199 j) ∧ (∀ j, j ≤ l → fs j = zA S 200 j) ∧ ∀ j, j < s → fc j = zA S 201 j := by
  obtain ⟨ω1, w1⟩ : ∃ w, w = g_upd ω n (.inr (2, [.int 0, .int 0, .null, .null, .null, .null])) := ⟨_, rfl⟩
  obtain ⟨fk, k1, k2⟩ := x_copyOf (Θ := Θ) (S := S) (ω := ω1) (n := n + 1) (k := 198) (c := l) rfl (by show l ≤ 12; exact hl) (by decide) (far_no (by omega))
  obtain ⟨ω2, w2⟩ : ∃ w, w = g_upd ω1 (n + 1) (.inl (gI Θ, l, .inl fk)) := ⟨_, rfl⟩
  obtain ⟨fa, a1, a2⟩ := x_copyOf (Θ := Θ) (S := S) (ω := ω2) (n := n + 1 + 1) (k := 199) (c := l) rfl (by show l ≤ 12; exact hl) (by decide) (far_no (by omega))
  obtain ⟨ω3, w3⟩ : ∃ w, w = g_upd ω2 (n + 1 + 1) (.inl (gI Θ, l, .inl fa)) := ⟨_, rfl⟩
  obtain ⟨fs, s1, s2⟩ := x_copyOf (Θ := Θ) (S := S) (ω := ω3) (n := n + 1 + 1 + 1) (k := 200) (c := l + 1) rfl (by show l + 1 ≤ 13; omega) (by decide) (far_no (by omega))
  obtain ⟨ω4, w4⟩ : ∃ w, w = g_upd ω3 (n + 1 + 1 + 1) (.inl (gI Θ, l + 1, .inl fs)) := ⟨_, rfl⟩
  obtain ⟨fc, c1, c2⟩ := x_copyOf (Θ := Θ) (S := S) (ω := ω4) (n := n + 1 + 1 + 1 + 1) (k := 201) (c := s) rfl (by show s ≤ 408; exact hs) (by decide) (far_no (by omega))
  obtain ⟨ω5, w5⟩ : ∃ w, w = g_upd ω4 (n + 1 + 1 + 1 + 1) (.inl (gI Θ, s, .inl fc)) := ⟨_, rfl⟩
  rw [← w2] at k2
  rw [← w3] at a2
  rw [← w4] at s2
  rw [← w5] at c2
  have z5 : ω5 n = some (.inr (2, [.int 0, .int 0, .null, .null, .null, .null])) := by
    rw [w5, g_upd_ne _ _ (by omega), w4, g_upd_ne _ _ (by omega), w3, g_upd_ne _ _ (by omega), w2, g_upd_ne _ _ (by omega), w1, g_upd_same]
  have hn : notOurs Θ n := far_no hf
  refine ⟨g_upd ω5 n (.inr (2, [.int (nI l), .int 1, .ref (n + 1), .ref (n + 1 + 1), .ref (n + 1 + 1 + 1), .ref (n + 1 + 1 + 1 + 1)])), fk, fa, fs, fc, ?_, fun a ha => ?_, ⟨g_upd_same _ _ _, ?_, ?_, ?_, ?_⟩, fun j hj => ⟨k1 j hj, a1 j hj⟩, fun j hj => s1 j (by omega), c1⟩
  · unfold F_X3_made
    rw [nw_z hn, ← w1, a197_1, h1, a197_3, a197_1, h1, k2, kA_v, a197_4, a197_1, h1, a2, kA_v, a197_5, a197_1, h1, nI_1, s2, kA_v, a197_6, a197_2, h2, c2, kA_v]
    unfold F_X2_init
    rw [z_wo hn z5 (by show _ < 6; decide), bz_1, z_wo hn (g_upd_same _ _ _) (by show _ < 6; decide), g_upd2, z_wo hn (g_upd_same _ _ _) (by show _ < 6; decide), g_upd2, z_wo hn (g_upd_same _ _ _) (by show _ < 6; decide), g_upd2, z_wo hn (g_upd_same _ _ _) (by show _ < 6; decide), g_upd2, z_wo hn (g_upd_same _ _ _) (by show _ < 6; decide), g_upd2]
    rfl
  · rw [g_upd_ne _ _ (by omega), w5, g_upd_ne _ _ (by omega), w4, g_upd_ne _ _ (by omega), w3, g_upd_ne _ _ (by omega), w2, g_upd_ne _ _ (by omega), w1, g_upd_ne _ _ (by omega)]
  · rw [g_upd_ne _ _ (by omega), w5, g_upd_ne _ _ (by omega), w4, g_upd_ne _ _ (by omega), w3, g_upd_ne _ _ (by omega), w2, g_upd_same]
  · rw [g_upd_ne _ _ (by omega), w5, g_upd_ne _ _ (by omega), w4, g_upd_ne _ _ (by omega), w3, g_upd_same]
  · rw [g_upd_ne _ _ (by omega), w5, g_upd_ne _ _ (by omega), w4, g_upd_same]
  · rw [g_upd_ne _ _ (by omega), w5, g_upd_same]
/-- what is made of lines that were read -/
theorem x_mdL {L : List LI} (hf : gb Θ + 234 < n) (hl : L.length ≤ 12) (hs : tlX L ≤ 400) (hk : ∀ ln ∈ L, okL ln) (h1 : zF S 197 1 = nI (0 + L.length)) (h2 : zF S 197 2 = nI (0 + tlX L)) (hL : LXr S 0 0 L) : ∃ (ω' : OW) (n' : Nat) (fk fa : Nat → Int32), F_X3_made Θ (gb Θ + 197) (laz Θ S ω) n = some (.inl (some (.ref n), laz Θ S ω', n')) ∧ (∀ a, a < n → ω' a = ω a) ∧ LawX Θ ω' n 1 (L.length, fk, fa, mnL L) ∧ ∀ j, j < L.length → fk j = (L.getD j dLI).1 ∧ fa j = (L.getD j dLI).2.1 := by
  rw [Nat.zero_add] at h1 h2
  obtain ⟨ω', fk, fa, fs, fc, e1, e2, ⟨c0, c1, c2, c3, c4⟩, e4, e5, e6⟩ := x_made (Θ := Θ) (ω := ω) hf hl (by omega) h1 h2
  refine ⟨ω', _, fk, fa, e1, e2, ⟨n + 1, n + 1 + 1, n + 1 + 1 + 1, n + 1 + 1 + 1 + 1, L.length, L.length, L.length + 1, tlX L, fs, fc, ⟨c0, c1, c2, c3, c4⟩, ⟨far_no hf, far_no (by omega), far_no (by omega), far_no (by omega), far_no (by omega)⟩, ⟨Nat.le_refl _, Nat.le_refl _, Nat.lt_succ_self _, by omega, by omega, by omega, by omega⟩, fun l hl' => ?_⟩, fun j hj => ?_⟩
  · have hl' : l < L.length := hl'
    obtain ⟨p, ⟨_, _, p3, p4, p5⟩, p6⟩ := LXr_get L 0 0 l hL hl'
    rw [Nat.zero_add] at p3 p4 p6
    refine ⟨p, p + (L.getD l dLI).2.2.1.length, by rw [e5 l (by omega)]; exact p3, by rw [e5 (l + 1) (by omega)]; exact p4, Nat.le_add_right _ _, p6, okL_X (getD_ok hk hl') (fun k hk' => ?_) p6 (by omega)⟩
    rw [e6 _ (by omega)]
    exact p5 k hk'
  · obtain ⟨p, ⟨p1, p2, _⟩, _⟩ := LXr_get L 0 0 j hL hj
    rw [Nat.zero_add] at p1 p2
    exact ⟨by rw [(e4 j hj).1]; exact p1, by rw [(e4 j hj).2]; exact p2⟩
theorem x_rdLaw {x : TX} (hf : gb Θ + 234 < n) (h : TC S x) (h0 : zA S 200 0 = 0) :
    ((lwP x).2 = none ∧ ∃ S', F_X3_read Θ (gb Θ + 197) (laz Θ S ω) n = some (.inl (some .null, laz Θ S' ω, n)) ∧ XQ4 S S' ∧ zF S' 1 1 = nI (lwP x).1) ∨
    ∃ L S' ω' n' fk fa, (lwP x).2 = some L ∧ F_X3_read Θ (gb Θ + 197) (laz Θ S ω) n = some (.inl (some (.ref n), laz Θ S' ω', n')) ∧ XQ4 S S' ∧ (∀ a, a < n → ω' a = ω a) ∧ LawX Θ ω' n 1 (L.length, fk, fa, mnL L) ∧ ∀ j, j < L.length → fk j = (L.getD j dLI).1 ∧ fa j = (L.getD j dLI).2.1 := by
  have hx := h.2.1
  have hs := skT_b (x := x) (Nat.zero_le _)
  have a0 : XQ4 S (uF (uF (uF S 197 1 0) 197 2 0) 1 2 0) := ⟨fun k j q z => by rw [zF_ne _ _ (by omega), zF_ne _ _ (by omega), zF_ne _ _ (by omega)], fun _ _ => rfl, fun _ _ => rfl, fun _ _ => rfl, rfl⟩
  obtain ⟨S1, e1, a1, t1⟩ := x_advance (Θ := Θ) (ω := ω) (n := n) (h.x4 a0) (p := 0) (Nat.zero_le _) (zF_eq _ _ _ _)
  have h1 := (h.x4 a0).xtk a1
  have q1 : XQ4 S S1 := a0.trans a1.l.f
  have f1 : zF S1 197 1 = 0 := by rw [a1.1 197 1 (by omega), zF_ne _ _ (by omega), zF_ne _ _ (by omega), zF_eq]
  have f2 : zF S1 197 2 = 0 := by rw [a1.1 197 2 (by omega), zF_ne _ _ (by omega), zF_eq]
  have hG := lwPG hx
  unfold lwP at hG ⊢
  unfold F_X3_read F_X8_open
  rw [b197_1, b197_2, a197_0, d1, b1_2, d1, e1, kV_v, kV_v, a197_0, d1, x_isEnded t1, kI_v]
  by_cases y : x.1 ≤ skT x 0
  · rw [if_pos y, decide_eq_true y, if_neg (show ¬ b01 true = 0 by decide), d197]
    obtain ⟨ω', n', fk, fa, m1, m2, m3, m4⟩ := x_mdL (Θ := Θ) (S := S1) (ω := ω) (n := n) (L := []) hf (Nat.zero_le _) (Nat.zero_le _) (fun ln h => by cases h) f1 f2 trivial
    rw [m1, kA_v]
    exact Or.inr ⟨[], S1, ω', n', fk, fa, rfl, rfl, q1, m2, m3, m4⟩
  · rw [if_neg y] at hG
    rw [if_neg y, decide_eq_false y, if_pos (show b01 false = 0 from rfl)]
    rcases x_lawL (Θ := Θ) (ω := ω) (n := n) hx 12 0 5000 S1 (skT x 0) 0 (by omega) (by omega) h1 t1 f2 (Nat.zero_le _) (by rw [q1.2.2.2.2, h0]; rfl) with ⟨o1, S2, e2, q2, t2⟩ | ⟨L, S2, o1, e2, q2, _, r1, ⟨r2, r3⟩, _⟩
    · exact Or.inl ⟨o1, S2, e2, q1.trans q2, t2.2.1⟩
    · obtain ⟨g1, g2, _, g4⟩ := hG.2 L o1
      have g0 := hG.1
      obtain ⟨ω', n', fk, fa, m1, m2, m3, m4⟩ := x_mdL (Θ := Θ) (S := S2) (ω := ω) (n := n) hf g1 (by omega) g4 r2 r3 r1
      have e2 : L_X3_read_34 Θ 5000 (gb Θ + 197) 0 (laz Θ S1 ω) n = _ := e2
      rw [e2, d197, m1, kA_v]
      exact Or.inr ⟨L, S2, ω', n', fk, fa, o1, rfl, q1.trans q2, m2, m3, m4⟩
end MD
