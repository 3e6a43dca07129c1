/-! all lines of the law, read by the reference -/
def LMr (w : Nat → Int32) : Nat → Nat → List LI → Prop
  | _, _, [] => True
  | l, i, ln :: L => (w (4 * l + 1155) = ln.1 ∧ w (4 * l + 1156) = ln.2.1 ∧ w (4 * l + 1157) = nI i ∧ w (4 * l + 1158) = nI (i + ln.2.2.2.1.length) ∧ lsD w i ln.2.2.2.1) ∧ LMr w (l + 1) (i + ln.2.2.2.1.length) L
def MLo (Θ : GP) (S : PZ) (ω : OW) (n l i : Nat) (o : Nat × Option (List LI)) (r : RO) : Prop := ∃ S' p b v, r = some (.inl (some (.int v), laz Θ (mT S' p b) ω, n)) ∧ RQ3 S S' ∧ (o.2 = none → v = -1 ∧ b = o.1) ∧ ∀ L, o.2 = some L → v = nI (l + L.length) ∧ LMr (zA S' 219) l i L ∧ ∀ k, (k < 4 * l + 1155 ∨ (1203 ≤ k ∧ k < 2 * i + 1203)) → zA S' 219 k = zA S 219 k
section MW
variable {Θ : GP} {ω : OW} {n : Nat} {x : TX}
theorem m_lawL : ∀ (k l f : Nat) (S : PZ) (p b i : Nat), l + k = 12 → k < f → MTx S x → p ≤ x.1 → zF S 218 16 = nI i → i ≤ skT x p → MLo Θ S ω n l i (lwL x k (skT x p)) (L_X11_readAll_28 Θ f (gb Θ + 218) 0 (nI l) (laz Θ (mT S p b) ω) n) := by
  intro k
  induction k with
  | zero =>
    intro l f S p b i h1 h2 h hp hi hip
    obtain ⟨f, rfl⟩ : ∃ g, f = g + 1 := ⟨f - 1, by omega⟩
    unfold L_X11_readAll_28 B_X11_readAll_28 F_X11_readLine J_X11_readLine_16 J_X11_readLine_45 J_X11_readLine_46
    rw [d218, d218, m_letters h hp, kV_v, if_pos (show (0 : Int32) = 0 from rfl), if_pos (show (12 : Int32) ≤ nI l from nI_le (a := 12) (by omega) (by omega)), bz_0, kI_v, if_pos rfl]
    exact ⟨S, _, _, -1, rfl, RQ3.rf S, fun _ => ⟨rfl, rfl⟩, fun L e => by cases e⟩
  | succ k ih =>
    intro l f S p b i h1 h2 h hp hi hip
    obtain ⟨f, rfl⟩ : ∃ g, f = g + 1 := ⟨f - 1, by omega⟩
    have hx := h.2.1
    have hs := skT_b hp
    have hg := liG hx hs.2
    obtain ⟨S1, p1, b1, e1, g1, g2, g3, g4⟩ := m_lnLaw (Θ := Θ) (ω := ω) (n := n) h (q := skT x p) (l := l) (i := i) (by omega) hs.2 hi hip
    have h1' := h.r3 g2
    unfold L_X11_readAll_28 B_X11_readAll_28 F_X11_readLine J_X11_readLine_16 J_X11_readLine_45 J_X11_readLine_41 J_X11_readLine_46 lwL
    rw [d218, d218, m_letters h hp, kV_v, if_pos (show (0 : Int32) = 0 from rfl), if_neg (show ¬ (12 : Int32) ≤ nI l from nI_ge (b := 12) (by omega) (by omega)), if_pos (show (0 : Int32) = 0 from rfl), d218, e1, kI_v]
    rcases hm : liP x (skT x p) with ⟨r, _ | ln⟩
    · rw [hm] at g3
      rw [if_pos (show b01 (none : Option LI).isSome = 0 from rfl), bz_0, kI_v, if_pos rfl]
      exact ⟨S1, p1, b1, -1, rfl, g2, fun _ => ⟨rfl, g3 rfl⟩, fun L e => by cases e⟩
    · rw [hm] at g4 hg
      obtain ⟨g5, g6, ⟨g7a, g7b, g7c, g7d⟩, g8, g9⟩ := g4 ln rfl
      have g5 : skT x p1 = r := g5
      obtain ⟨k1, k2, k3⟩ := hg
      obtain ⟨_, k4, k5, _⟩ := k3 ln rfl
      have k2 : r ≤ x.1 := k2
      have k4 : skT x p + ln.2.2.2.1.length ≤ r := k4
      rw [if_neg (show ¬ b01 (some ln).isSome = 0 from (show ¬ b01 true = 0 by decide)), bz_1, kI_v, if_neg (show ¬ (1 : Int32) = 0 by decide), d218, m_blanks h1' g1, kV_v, a218_10, mT_p, a218_11, mT_ne _ _ _ (by omega), h1'.1, g5]
      show MLo Θ S ω n l i (if x.1 ≤ r then (r, some [ln]) else if isSg x r 59 = true then bnd (lwL x k (skT x (r + 1))) (fun r' L => (r', some (ln :: L))) else (r, none)) _
      by_cases y : x.1 ≤ r
      · rw [if_pos y, if_pos (show nI r = nI x.1 by rw [show r = x.1 by omega]), nI_1]
        refine ⟨S1, _, _, _, rfl, g2, (fun e => by cases e), fun L e => ?_⟩
        cases e
        exact ⟨rfl, ⟨⟨g7a, g7b, g7c, g7d, g8⟩, trivial⟩, g9⟩
      · have ei := m_isAt (Θ := Θ) (ω := ω) (n := n) (p := r) (b := r) h1' (lo := 59) (hi := 59) k2 (by omega) (by omega) (by omega)
        have ei : F_X11_isAt Θ (gb Θ + 218) 59 59 _ n = _ := ei
        rw [if_neg y, if_neg (show ¬ nI r = nI x.1 from fun u => y (by have := (nI_eq (by omega) (by omega)).mp u; omega)), d218, ei, kI_v]
        by_cases u : isSg x r 59 = true
        · have hu := of_decide_eq_true u
          have hs3 := skT_b (x := x) (p := r + 1) (by omega)
          rw [if_pos u, decide_eq_true (show r < x.1 ∧ 59 ≤ x.2 r ∧ x.2 r ≤ 59 by omega), if_neg (show ¬ b01 true = 0 by decide), a218_10, mT_p, nI_1, b218_10, mT_up, nI_1]
          have hI := ih (l + 1) f S1 (r + 1) r (i + ln.2.2.2.1.length) (by omega) (by omega) h1' (by omega) g6 (by omega)
          rcases hm2 : lwL x k (skT x (r + 1)) with ⟨r', _ | L⟩
          · rw [hm2] at hI
            obtain ⟨S2, p2, b2, v, i1, i2, i3, i4⟩ := hI
            exact ⟨S2, p2, b2, v, i1, g2.trans i2, i3, fun L e => by cases e⟩
          · rw [hm2] at hI
            obtain ⟨S2, p2, b2, v, i1, i2, i3, i4⟩ := hI
            obtain ⟨j1, j2, j3⟩ := i4 L rfl
            refine ⟨S2, p2, b2, v, i1, g2.trans i2, (fun e => by cases e), fun L' e => ?_⟩
            cases e
            refine ⟨by rw [j1, List.length_cons]; congr 1; omega, ⟨⟨?_, ?_, ?_, ?_, fun k hk => ?_⟩, j2⟩, fun k hk => ?_⟩
            · rw [j3 _ (by omega)]; exact g7a
            · rw [j3 _ (by omega)]; exact g7b
            · rw [j3 _ (by omega)]; exact g7c
            · rw [j3 _ (by omega)]; exact g7d
            · rw [j3 _ (by omega), j3 _ (by omega)]; exact g8 k hk
            · rw [j3 k (by omega)]; exact g9 k hk
        · rw [if_neg u, decide_eq_false (fun v => u (decide_eq_true (by omega))), if_pos (show b01 false = 0 from rfl)]
          exact ⟨S1, _, _, -1, rfl, g2, fun _ => ⟨rfl, rfl⟩, fun L e => by cases e⟩
theorem m_lawAll {S : PZ} (h : MTx (rdU S) x) : MLo Θ (rdU S) ω n 0 0 (lwP x) (F_X11_readAll Θ (gb Θ + 218) 0 (laz Θ S ω) n) := by
  obtain ⟨b, hb⟩ := rdU_mT S
  have h4 := h.2.1
  have hs := skT_b (x := x) (Nat.zero_le _)
  have h16 : zF (rdU S) 218 16 = nI 0 := by unfold rdU; rw [zF_eq]; rfl
  rw [show uA (rdU S) 219 (zA S 219) = rdU S from uA_self (rdU S) 219] at hb
  unfold F_X11_readAll lwP
  rw [d218, m_uses, kV_v, b218_16, show uF (uF (uF (uF (uF S 218 0 0) 218 11 (zF S 218 9)) 218 9 0) 218 10 0) 218 16 0 = rdU S from rfl]
  generalize rdU S = U at *
  have eb : laz Θ U ω = laz Θ (mT U 0 b) ω := by rw [← hb]
  rw [eb, d218, m_blanks h (Nat.zero_le _), kV_v, a218_10, mT_p, a218_11, mT_ne _ _ _ (by omega), h.1]
  by_cases y : x.1 ≤ skT x 0
  · rw [if_pos y, if_pos (show nI (skT x 0) = nI x.1 by rw [show skT x 0 = x.1 by omega])]
    refine ⟨U, _, _, 0, rfl, RQ3.rf U, (fun e => by cases e), fun L e => ?_⟩
    cases e
    exact ⟨rfl, trivial, fun _ _ => rfl⟩
  · rw [if_neg y, if_neg (show ¬ nI (skT x 0) = nI x.1 from fun u => y (by have := (nI_eq (by omega) (by omega)).mp u; omega))]
    have := m_lawL (Θ := Θ) (ω := ω) (n := n) 12 0 5000 U (skT x 0) (skT x 0) 0 (by omega) (by omega) h hs.2 h16 (Nat.zero_le _)
    rw [skT_sk] at this
    exact this
/-- the draft taken over -/
def lwC (w : Nat → Int32) (m : Nat) : Nat → Int32 := fun j => if 305 ≤ j ∧ j < 305 + m then w (j + 849) else w j
theorem lwC_0 (w : Nat → Int32) : lwC w 0 = w := by
  funext j
  unfold lwC
  rw [if_neg (by omega)]
theorem lwC_s (w : Nat → Int32) {p : Nat} (hp : p < 849) : upd (lwC w p) (305 + p) (lwC w p (1154 + p)) = lwC w (p + 1) := by
  funext j
  unfold upd lwC
  rw [if_neg (show ¬ (305 ≤ 1154 + p ∧ 1154 + p < 305 + p) by omega)]
  by_cases h : j = 305 + p
  · subst h
    rw [if_pos rfl, if_pos (by omega)]
    congr 1
    omega
  · rw [if_neg h]
    by_cases z : 305 ≤ j ∧ j < 305 + p
    · rw [if_pos z, if_pos (by omega)]
    · rw [if_neg z, if_neg (by omega)]
theorem m_law_L {S : PZ} {w : Nat → Int32} {l1 : Int32} : ∀ (k p f : Nat), p + k = 849 → k < f → L_X11_law_52 Θ f (gb Θ + 218) l1 (nI p) (laz Θ (uA S 219 (lwC w p)) ω) n = some (.inl (some (.int l1), laz Θ (uF (uA S 219 (upd (lwC w 849) 3 1)) 218 7 0) ω, n)) := by
  intro k
  induction k with
  | zero =>
    intro p f h2 h3
    obtain ⟨f, rfl⟩ : ∃ g, f = g + 1 := ⟨f - 1, by omega⟩
    have hp : p = 849 := by omega
    subst hp
    unfold L_X11_law_52 B_X11_law_52
    rw [if_pos (show (849 : Int32) ≤ nI 849 from nI_le (a := 849) (by omega) (by omega)), a218_1, sI_lit, s_219 (by decide), zA_eq, uA_uA, b218_7]
  | succ k ih =>
    intro p f h2 h3
    obtain ⟨f, rfl⟩ : ∃ g, f = g + 1 := ⟨f - 1, by omega⟩
    unfold L_X11_law_52 B_X11_law_52
    rw [if_neg (show ¬ (849 : Int32) ≤ nI p from nI_ge (b := 849) (by omega) (by omega)), a218_1, a218_1, show (1154 : Int32) + nI p = nI (1154 + p) from nI_add 1154 p, l_219 (by omega), zA_eq, show (305 : Int32) + nI p = nI (305 + p) from nI_add 305 p, s_219 (by omega), zA_eq, uA_uA, nI_1, lwC_s w (by omega), ih (p + 1) f (by omega) (by omega)]
/-- the reference's call: the law, or a fault -/
theorem m_law {S : PZ} (h : MTx (rdU S) x) : ∃ S' p b, RQ3 (rdU S) S' ∧
    ((lwP x).2 = none → F_X11_law Θ (gb Θ + 218) (laz Θ S ω) n = some (.inl (some (.int 0), laz Θ (uF (uF (mT S' p b) 218 14 (nI (lwP x).1)) 218 0 1) ω, n))) ∧
    ∀ L, (lwP x).2 = some L → L.length ≤ 12 → LMr (zA S' 219) 0 0 L ∧ F_X11_law Θ (gb Θ + 218) (laz Θ S ω) n = some (.inl (some (.int (nI L.length)), laz Θ (uF (uA (uF (mT S' p b) 218 14 (-1)) 219 (upd (lwC (upd (zA S' 219) 1154 (nI L.length)) 849) 3 1)) 218 7 0) ω, n)) := by
  obtain ⟨S', p, b, v, e1, e2, e3, e4⟩ := m_lawAll (Θ := Θ) (ω := ω) (n := n) h
  refine ⟨S', p, b, e2, fun o => ?_, fun L o h12 => ?_⟩
  · obtain ⟨rfl, rfl⟩ := e3 o
    unfold F_X11_law J_X11_law_19 J_X11_law_32
    rw [d218, e1, kI_v, if_neg (show ¬ (0 : Int32) ≤ -1 by decide), a218_12, mT_b, b218_14, if_neg (show ¬ (0 : Int32) ≤ -1 by decide), d218, m_throwsIf1, kI_v, if_neg (show ¬ (1 : Int32) = 0 by decide)]
  · obtain ⟨rfl, j2, _⟩ := e4 L o
    refine ⟨j2, ?_⟩
    rw [Nat.zero_add] at e1
    unfold F_X11_law J_X11_law_19 J_X11_law_32
    rw [d218, e1, kI_v, if_pos (nI_pos' (by omega)), b218_14, if_pos (nI_pos' (by omega)), d218, m_throwsIf0, kI_v, if_pos rfl, a218_1, sI_lit, s_219 (by decide)]
    have := m_law_L (Θ := Θ) (ω := ω) (n := n) (S := uF (mT S' p b) 218 14 (-1)) (w := upd (zA S' 219) 1154 (nI L.length)) (l1 := nI L.length) 849 0 5000 (by omega) (by omega)
    rw [lwC_0] at this
    exact this
theorem LMr_get {w : Nat → Int32} : ∀ (L : List LI) (l i j : Nat), LMr w l i L → j < L.length → ∃ p, (w (4 * (l + j) + 1155) = (L.getD j dLI).1 ∧ w (4 * (l + j) + 1156) = (L.getD j dLI).2.1 ∧ w (4 * (l + j) + 1157) = nI p ∧ w (4 * (l + j) + 1158) = nI (p + (L.getD j dLI).2.2.2.1.length) ∧ lsD w p (L.getD j dLI).2.2.2.1) ∧ p + (L.getD j dLI).2.2.2.1.length ≤ i + tlM L := by
  intro L
  induction L with
  | nil => intro l i j _ h; exact absurd h (Nat.not_lt_zero _)
  | cons ln L ih =>
    intro l i j h hj
    cases j with
    | zero => exact ⟨i, h.1, by show i + ln.2.2.2.1.length ≤ i + (ln.2.2.2.1.length + tlM L); omega⟩
    | succ j =>
      obtain ⟨p, p1, p2⟩ := ih (l + 1) (i + ln.2.2.2.1.length) j h.2 (by rw [List.length_cons] at hj; omega)
      rw [show l + 1 + j = l + (j + 1) by omega] at p1
      exact ⟨p, p1, Nat.le_trans p2 (by show i + ln.2.2.2.1.length + tlM L ≤ i + (ln.2.2.2.1.length + tlM L); omega)⟩
theorem okL_M {ln : LI} (h : okL ln) {w : Nat → Int32} {p : Nat} (hc : lsB w p ln.2.2.2.1) (hl : p + ln.2.2.2.1.length ≤ 400) : EvM w p (p + ln.2.2.2.1.length) ln.2.2.2.2.2 := by
  refine ⟨Nat.le_add_right _ _, hl, fun f hf v => ?_⟩
  rw [Nat.add_sub_cancel_left]
  rcases h.2.2 with e | ⟨e, d⟩
  · rw [e]
    exact ⟨v, 0, ⟨rfl, fun j hj => absurd hj (Nat.not_lt_zero _)⟩, ⟨fun _ => rfl, fun _ => Or.inl rfl⟩⟩
  · obtain ⟨v', k1, k2, _⟩ := e.2.2.2 w f v p 0 hc hl (Nat.zero_le _) hf
    refine ⟨v', 0 + 1, k1, ?_⟩
    rw [k2]
    by_cases hb : ln.2.2.2.2.2 f = true
    · rw [hb]
      exact ⟨fun _ => rfl, fun _ => Or.inr rfl⟩
    · rw [Bool.eq_false_iff.mpr hb]
      exact ⟨fun u => absurd u (by decide), fun u => absurd u (by decide)⟩
/-- what the reference holds then is that law -/
theorem law_M {w fk fa : Nat → Int32} {L : List LI} (h12 : L.length ≤ 12) (h4 : tlM L ≤ 400) (hk : ∀ ln ∈ L, okL ln) (hL : LMr w 0 0 L) (hf : ∀ j, j < L.length → fk j = (L.getD j dLI).1 ∧ fa j = (L.getD j dLI).2.1) : LawM (upd (lwC (upd w 1154 (nI L.length)) 849) 3 1) (L.length, fk, fa, mnL L) := by
  have hw : ∀ j, 306 ≤ j → j < 1154 → upd (lwC (upd w 1154 (nI L.length)) 849) 3 1 j = w (j + 849) := by
    intro j h1 h2
    rw [upd_ne _ _ (by omega)]
    unfold lwC
    rw [if_pos (by omega), upd_ne _ _ (by omega)]
  have h3 : upd (lwC (upd w 1154 (nI L.length)) 849) 3 1 3 = 1 := upd_same _ _ _
  refine ⟨h12, Or.inr h3, fun u => ?_, fun _ => ?_, fun l hl => ?_⟩
  · rw [h3] at u
    exact absurd u (by decide)
  · rw [upd_ne _ _ (by omega)]
    unfold lwC
    rw [if_pos (by omega)]
    exact upd_same _ _ _
  · have hl : l < L.length := hl
    obtain ⟨p, ⟨p1, p2, p3, p4, p5⟩, p6⟩ := LMr_get L 0 0 l hL hl
    rw [Nat.zero_add] at p1 p2 p3 p4 p6
    have ok := getD_ok hk hl
    have f1 : fk l = (L.getD l dLI).1 := (hf l hl).1
    have f2 : fa l = (L.getD l dLI).2.1 := (hf l hl).2
    refine ⟨?_, ?_, ?_, ?_, p, p + (L.getD l dLI).2.2.2.1.length, ?_, ?_, okL_M ok (fun k hk' => ?_) (by omega)⟩
    · rw [hw _ (by omega) (by omega)]
      exact p1.trans f1.symm
    · rw [hw _ (by omega) (by omega)]
      exact p2.trans f2.symm
    · show fk l = 0 ∨ fk l = 1 ∨ fk l = 2
      rw [f1]; exact ok.1
    · show Rg (fa l) 30
      rw [f2]; exact ok.2.1
    · rw [hw _ (by omega) (by omega)]
      exact p3
    · rw [hw _ (by omega) (by omega)]
      exact p4
    · rw [hw _ (by omega) (by omega), hw _ (by omega) (by omega)]
      exact p5 k hk'
end MW
