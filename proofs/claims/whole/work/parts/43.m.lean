/-! conditions and their atoms, read by the reference -/
def cdO (o : Nat × Option CE) : Option (List (Int32 × Int32)) := o.2.map (fun c => c.2.1)
section RN
variable {Θ : GP} {S S0 : PZ} {ω : OW} {n : Nat} {x : TX}
theorem isS {α β : Type} {f : α → β} (a : α) : ¬ b01 (Option.map f (some a)).isSome = 0 := show ¬ b01 true = 0 by decide
/-- the rest of a comparison -/
theorem m_cmp (h : MTx S x) {rcA : Nat → OW → Nat → RO} {p b q i : Nat} (hp : p ≤ x.1) (hq : skT x p = q) (hi : zF S 218 16 = nI i) (h4 : i + (x.1 - q) ≤ 393) : RPo Θ S ω n x i (cmP x q).1 (cdO (cmP x q)) (cO (laz Θ (mT S p b) ω) (gb Θ + 218) 11 (kI (F_X11_readSum Θ (gb Θ + 218) (laz Θ (mT S p b) ω) n) (fun x11 ω n => if x11 = 0 then (some (.inl (some (.int 0), ω, n))) else (cO ω (gb Θ + 218) 11 (kI (F_X11_sign Θ (gb Θ + 218) 60 ω n) (fun x13 ω n => if x13 = 0 then (cO ω (gb Θ + 218) 11 (kI (F_X11_sign Θ (gb Θ + 218) 62 ω n) (fun x15 ω n => if x15 = 0 then (J_X11_readAtom_159 Θ rcA ω n) else (J_X11_readAtom_152 Θ rcA (gb Θ + 218) x13 ω n)))) else (J_X11_readAtom_152 Θ rcA (gb Θ + 218) x13 ω n))))))) := by
  have hs := skT_b hp
  rw [hq] at hs
  have hx := h.2.1
  obtain ⟨S1, p1, b1, e1, g1, g2, g3, g4⟩ := m_sum (Θ := Θ) (ω := ω) (n := n) (b := b) h hp hq hi h4
  have sG := smG hx 401 q hs.2
  unfold cmP
  rw [d218]
  rcases hm : smP x 401 q with ⟨r, _ | L⟩
  · rw [hm] at e1 g3
    rw [e1, kI_v, if_pos (show b01 (Option.map suM (none : Option (List PT))).isSome = 0 from rfl)]
    exact RPo.f rfl g1 g2 rfl (g3 rfl)
  · rw [hm] at e1 g4 sG
    obtain ⟨g5, g6⟩ := g4 _ rfl
    have g5 : skT x p1 = r := g5
    obtain ⟨s1, s2, s3⟩ := sG
    obtain ⟨u1, u2, u3, u4⟩ := s3 L rfl
    have u3 : q + (2 * L.length - 1) + nfL L ≤ r := u3
    have s2 : r ≤ x.1 := s2
    have h1 := h.rq g2
    have eL := m_sign (Θ := Θ) (ω := ω) (n := n) (b := b1) h1 (c := 60) (by omega) g1
    have eL : F_X11_sign Θ (gb Θ + 218) 60 (laz Θ (mT S1 p1 b1) ω) n = _ := eL
    rw [g5] at eL
    rw [e1, kI_v, if_neg (isS L), d218, eL, kI_v]
    have fin : ∀ (l : Bool) (c0 : Nat) (l1 : Int32), isSg x r c0 = true → (l = true ↔ ¬ l1 = 0) → RPo Θ S ω n x i (bnd (smP x 401 (skT x (r + 1))) (fun r' R => (r', some (cmpC l L R)))).1 (cdO (bnd (smP x 401 (skT x (r + 1))) (fun r' R => (r', some (cmpC l L R))))) (J_X11_readAtom_152 Θ rcA (gb Θ + 218) l1 (laz Θ (mT S1 (r + 1) r) ω) n) := by
      intro l c0 l1 hsg hl
      have hg := sg_q hsg
      have hs2 := skT_b (x := x) (p := r + 1) (by omega)
      have eln : (suM L).length = 2 * L.length - 1 := suM_len u1
      obtain ⟨S2, p2, b2, e2, j1, j2, j3, j4⟩ := m_sum (Θ := Θ) (ω := ω) (n := n) (b := r) (q := skT x (r + 1)) h1 (show r + 1 ≤ x.1 by omega) rfl g6.1 (by rw [eln]; omega)
      have sG2 := smG hx 401 (skT x (r + 1)) hs2.2
      unfold J_X11_readAtom_152 J_X11_readAtom_159 J_X11_readAtom_173
      rw [d218]
      rcases hm2 : smP x 401 (skT x (r + 1)) with ⟨r', _ | R⟩
      · rw [hm2] at e2 j3
        rw [e2, kI_v, if_pos (show b01 (Option.map suM (none : Option (List PT))).isSome = 0 from rfl)]
        exact RPo.f rfl j1 (g2.trans j2) rfl (j3 rfl)
      · rw [hm2] at e2 j4 sG2
        obtain ⟨j5, j6⟩ := j4 _ rfl
        have j5 : skT x p2 = r' := j5
        obtain ⟨v1, v2, v3⟩ := sG2
        obtain ⟨w1, w2, w3, w4⟩ := v3 R rfl
        have w3 : skT x (r + 1) + (2 * R.length - 1) + nfL R ≤ r' := w3
        have v2 : r' ≤ x.1 := v2
        have elr : (suM R).length = 2 * R.length - 1 := suM_len w1
        have w12 := g6.trans j6
        obtain ⟨S3, e3, q3, y3⟩ := m_emits (Θ := Θ) (ω := ω) (n := n) (p := p2) (b := b2) (u := if l = true then 10 else 11) (v := 0) w12.1 (by rw [List.length_append]; omega)
        have wf : RWl S S3 i (cmpC l L R).2.1 := w12.trans y3
        rw [e2, kI_v, if_neg (isS R)]
        cases l with
        | true =>
          rw [if_neg (hl.mp rfl), d218]
          rw [if_pos rfl] at e3
          rw [e3, kV_v]
          exact RPo.t rfl j1 ((g2.trans j2).trans q3) wf j5 rfl
        | false =>
          rw [if_pos (Classical.byContradiction (fun u => absurd (hl.mpr u) (by decide))), d218]
          rw [if_neg (show ¬ false = true by decide)] at e3
          rw [e3, kV_v]
          exact RPo.t rfl j1 ((g2.trans j2).trans q3) wf j5 rfl
    show RPo Θ S ω n x i (if isSg x r 60 = true then bnd (smP x 401 (skT x (r + 1))) (fun r' R => (r', some (cmpC true L R))) else if isSg x r 62 = true then bnd (smP x 401 (skT x (r + 1))) (fun r' R => (r', some (cmpC false L R))) else (r, none)).1 (cdO (if isSg x r 60 = true then bnd (smP x 401 (skT x (r + 1))) (fun r' R => (r', some (cmpC true L R))) else if isSg x r 62 = true then bnd (smP x 401 (skT x (r + 1))) (fun r' R => (r', some (cmpC false L R))) else (r, none))) _
    cases g60 : isSg x r 60 with
    | true =>
      rw [if_neg (show ¬ b01 true = 0 by decide), if_pos rfl, if_pos rfl]
      exact fin true 60 _ g60 ⟨fun _ => show ¬ b01 true = 0 by decide, fun _ => rfl⟩
    | false =>
      have hrr : skT x r = r := by rw [← g5, skT_sk]
      have eG := m_sign (Θ := Θ) (ω := ω) (n := n) (b := r) h1 (c := 62) (by omega) s2
      have eG : F_X11_sign Θ (gb Θ + 218) 62 (laz Θ (mT S1 r r) ω) n = _ := eG
      rw [hrr] at eG
      rw [if_pos (show b01 false = 0 from rfl), if_neg (show ¬ false = true by decide), if_neg (show ¬ false = true by decide), d218, eG, kI_v]
      cases g62 : isSg x r 62 with
      | true =>
        rw [if_neg (show ¬ b01 true = 0 by decide), if_pos rfl, if_pos rfl]
        exact fin false 62 _ g62 ⟨(fun u => by cases u), fun u => absurd (show b01 false = 0 from rfl) u⟩
      | false =>
        rw [if_pos (show b01 false = 0 from rfl), if_neg (show ¬ false = true by decide), if_neg (show ¬ false = true by decide)]
        exact RPo.f rfl s2 g2 rfl rfl
/-- what an atom's reader does -/
def RAm (Θ : GP) (ω : OW) (n : Nat) (x : TX) (at' : Nat → Nat × Option CE) (dp : Nat) (rcA : Nat → OW → Nat → RO) : Prop := ∀ (S : PZ) (p b q i : Nat), MTx S x → p ≤ x.1 → skT x p = q → zF S 218 16 = nI i → zF S 218 13 = nI dp → i + (x.1 - q) ≤ 393 → RPo Θ S ω n x i (at' q).1 (cdO (at' q)) (rcA (gb Θ + 218) (laz Θ (mT S p b) ω) n)
theorem m_and {at' : Nat → Nat × Option CE} {D dp : Nat} {rcA : Nat → OW → Nat → RO} (hA : RAm Θ ω n x at' dp rcA) (hG : ∀ q, q ≤ x.1 → GO x q D (at' q)) {i0 : Nat} (hd : zF S0 218 13 = nI dp) : ∀ (k p b q f : Nat) (c : CE) (S : PZ), x.1 < q + k → k < f → MTx S x → p ≤ x.1 → skT x p = q → RQl S0 S → RWl S0 S i0 c.2.1 → i0 + c.2.1.length + (x.1 - q) ≤ 393 → RPo Θ S0 ω n x i0 (anL x at' k c q).1 (cdO (anL x at' k c q)) (L_X11_readAllOf_9 Θ rcA f (gb Θ + 218) (laz Θ (mT S p b) ω) n) := by
  intro k
  induction k with
  | zero => intro p b q f c S h0 _ _ hp hq; have := (skT_b hp).2; omega
  | succ k ih =>
    intro p b q f c S h0 hf h hp hq hQ hw h4
    obtain ⟨f, rfl⟩ : ∃ g, f = g + 1 := ⟨f - 1, by omega⟩
    have hs := skT_b hp
    rw [hq] at hs
    unfold L_X11_readAllOf_9 B_X11_readAllOf_9 anL
    rw [d218, m_passes h (by decide) hp, kI_v, hq]
    cases hz : isWd x q 15 with
    | false =>
      rw [if_pos (show b01 false = 0 from rfl), if_neg (show ¬ false = true by decide), if_neg (show ¬ false = true by decide)]
      exact RPo.t rfl hs.2 hQ hw (by rw [← hq, skT_sk]) rfl
    | true =>
      have hn := wd_nx (by omega) hz hs.2
      have hn1 : q + 3 ≤ skT x (weT x q) := hn.1
      have hwq := weT_b hs.2
      rw [if_neg (show ¬ b01 true = 0 by decide), if_pos rfl, if_pos rfl, d218]
      obtain ⟨S1, p1, b1, e1, g1, g2, g3, g4⟩ := hA S (weT x q) q (skT x (weT x q)) (i0 + c.2.1.length) h hwq.2 rfl hw.1 (by rw [hw.2.1]; exact hd) (by omega)
      have hg := hG _ hn.2
      rcases hm : at' (skT x (weT x q)) with ⟨r, _ | a⟩
      · rw [hm] at e1 g3
        rw [e1, kI_v, if_pos (show b01 (cdO (r, none)).isSome = 0 from rfl)]
        exact RPo.f rfl g1 (hQ.trans g2) rfl (g3 rfl)
      · rw [hm] at e1 g4 hg
        obtain ⟨g5, g6⟩ := g4 _ rfl
        have g5 : skT x p1 = r := g5
        obtain ⟨y1, y2, y3⟩ := hg
        obtain ⟨y4, y5, y6, _⟩ := y3 a rfl
        have y5 : skT x (weT x q) + a.2.1.length ≤ r := y5
        have y2 : r ≤ x.1 := y2
        have y6 : skT x (weT x q) < r := y6
        have g6 : RWl S S1 (i0 + c.2.1.length) a.2.1 := g6
        have w12 := hw.trans g6
        obtain ⟨S2, e2, q2, w2⟩ := m_emits (Θ := Θ) (ω := ω) (n := n) (p := p1) (b := b1) (u := 13) (v := 0) w12.1 (by rw [List.length_append]; omega)
        rw [e1, kI_v, if_neg (show ¬ b01 (cdO (r, some a)).isSome = 0 from isS a), d218, e2, kV_v]
        exact ih p1 b1 r f (conC c a) S2 (by omega) (by omega) ((h.rq g2).rq q2) g1 g5 ((hQ.trans g2).trans q2) (w12.trans w2) (by rw [(con_ln c a).2.1]; omega)
theorem m_all {at' : Nat → Nat × Option CE} {D dp : Nat} {rcA : Nat → OW → Nat → RO} (hA : RAm Θ ω n x at' dp rcA) (hG : ∀ q, q ≤ x.1 → GO x q D (at' q)) : RAm Θ ω n x (anP x at') dp (F_X11_readAllOf Θ rcA) := by
  intro S p b q i h hp hq hi hd h4
  have hs := skT_b hp
  rw [hq] at hs
  have hx := h.2.1
  unfold F_X11_readAllOf anP
  rw [d218]
  obtain ⟨S1, p1, b1, e1, g1, g2, g3, g4⟩ := hA S p b q i h hp hq hi hd h4
  have hg := hG _ hs.2
  rcases hm : at' q with ⟨r, _ | a⟩
  · rw [hm] at e1 g3
    rw [e1, kI_v, if_pos (show b01 (cdO (r, none)).isSome = 0 from rfl)]
    exact RPo.f rfl g1 g2 rfl (g3 rfl)
  · rw [hm] at e1 g4 hg
    obtain ⟨g5, g6⟩ := g4 _ rfl
    have g5 : skT x p1 = r := g5
    obtain ⟨y1, y2, y3⟩ := hg
    obtain ⟨y4, y5, y6, _⟩ := y3 a rfl
    have y5 : q + a.2.1.length ≤ r := y5
    have y2 : r ≤ x.1 := y2
    rw [e1, kI_v, if_neg (show ¬ b01 (cdO (r, some a)).isSome = 0 from isS a)]
    exact m_and hA hG hd 401 p1 b1 r 5000 a S1 (by omega) (by omega) (h.rq g2) g1 g5 g2 g6 (by omega)
theorem m_orL {at' : Nat → Nat × Option CE} {D dp : Nat} {rcA : Nat → OW → Nat → RO} (hA : RAm Θ ω n x at' dp rcA) (hG : ∀ q, q ≤ x.1 → GO x q D (at' q)) {i0 : Nat} (hd : zF S0 218 13 = nI dp) : ∀ (k p b q f : Nat) (c : CE) (S : PZ), x.1 < q + k → k < f → MTx S x → p ≤ x.1 → skT x p = q → RQl S0 S → RWl S0 S i0 c.2.1 → i0 + c.2.1.length + (x.1 - q) ≤ 393 → RPo Θ S0 ω n x i0 (cdL x at' k c q).1 (cdO (cdL x at' k c q)) (L_X11_readCond_9 Θ rcA f (gb Θ + 218) (laz Θ (mT S p b) ω) n) := by
  intro k
  induction k with
  | zero => intro p b q f c S h0 _ _ hp hq; have := (skT_b hp).2; omega
  | succ k ih =>
    intro p b q f c S h0 hf h hp hq hQ hw h4
    obtain ⟨f, rfl⟩ : ∃ g, f = g + 1 := ⟨f - 1, by omega⟩
    have hs := skT_b hp
    rw [hq] at hs
    unfold L_X11_readCond_9 B_X11_readCond_9 cdL
    rw [d218, m_passes h (by decide) hp, kI_v, hq]
    cases hz : isWd x q 16 with
    | false =>
      rw [if_pos (show b01 false = 0 from rfl), if_neg (show ¬ false = true by decide), if_neg (show ¬ false = true by decide)]
      exact RPo.t rfl hs.2 hQ hw (by rw [← hq, skT_sk]) rfl
    | true =>
      have hn := wd_nx (by omega) hz hs.2
      have hn1 : q + 2 ≤ skT x (weT x q) := hn.1
      have hwq := weT_b hs.2
      rw [if_neg (show ¬ b01 true = 0 by decide), if_pos rfl, if_pos rfl, d218]
      obtain ⟨S1, p1, b1, e1, g1, g2, g3, g4⟩ := m_all hA hG S (weT x q) q (skT x (weT x q)) (i0 + c.2.1.length) h hwq.2 rfl hw.1 (by rw [hw.2.1]; exact hd) (by omega)
      have hg := anPG hG hn.2
      rcases hm : anP x at' (skT x (weT x q)) with ⟨r, _ | a⟩
      · rw [hm] at e1 g3
        rw [e1, kI_v, if_pos (show b01 (cdO (r, none)).isSome = 0 from rfl)]
        exact RPo.f rfl g1 (hQ.trans g2) rfl (g3 rfl)
      · rw [hm] at e1 g4 hg
        obtain ⟨g5, g6⟩ := g4 _ rfl
        have g5 : skT x p1 = r := g5
        obtain ⟨y1, y2, y3⟩ := hg
        obtain ⟨y4, y5, y6, _⟩ := y3 a rfl
        have y5 : skT x (weT x q) + a.2.1.length ≤ r := y5
        have y2 : r ≤ x.1 := y2
        have y6 : skT x (weT x q) < r := y6
        have g6 : RWl S S1 (i0 + c.2.1.length) a.2.1 := g6
        have w12 := hw.trans g6
        obtain ⟨S2, e2, q2, w2⟩ := m_emits (Θ := Θ) (ω := ω) (n := n) (p := p1) (b := b1) (u := 14) (v := 0) w12.1 (by rw [List.length_append]; omega)
        rw [e1, kI_v, if_neg (show ¬ b01 (cdO (r, some a)).isSome = 0 from isS a), d218, e2, kV_v]
        exact ih p1 b1 r f (disC c a) S2 (by omega) (by omega) ((h.rq g2).rq q2) g1 g5 ((hQ.trans g2).trans q2) (w12.trans w2) (by rw [(con_ln c a).2.2.2]; omega)
theorem m_cond {at' : Nat → Nat × Option CE} {D dp : Nat} {rcA : Nat → OW → Nat → RO} (hA : RAm Θ ω n x at' dp rcA) (hG : ∀ q, q ≤ x.1 → GO x q D (at' q)) : RAm Θ ω n x (cdP x at') dp (F_X11_readCond Θ rcA) := by
  intro S p b q i h hp hq hi hd h4
  have hs := skT_b hp
  rw [hq] at hs
  have hx := h.2.1
  unfold F_X11_readCond cdP
  rw [d218]
  obtain ⟨S1, p1, b1, e1, g1, g2, g3, g4⟩ := m_all hA hG S p b q i h hp hq hi hd h4
  have hg := anPG hG hs.2
  rcases hm : anP x at' q with ⟨r, _ | a⟩
  · rw [hm] at e1 g3
    rw [e1, kI_v, if_pos (show b01 (cdO (r, none)).isSome = 0 from rfl)]
    exact RPo.f rfl g1 g2 rfl (g3 rfl)
  · rw [hm] at e1 g4 hg
    obtain ⟨g5, g6⟩ := g4 _ rfl
    have g5 : skT x p1 = r := g5
    obtain ⟨y1, y2, y3⟩ := hg
    obtain ⟨y4, y5, y6, _⟩ := y3 a rfl
    have y5 : q + a.2.1.length ≤ r := y5
    have y2 : r ≤ x.1 := y2
    rw [e1, kI_v, if_neg (show ¬ b01 (cdO (r, some a)).isSome = 0 from isS a)]
    exact m_orL hA hG hd 401 p1 b1 r 5000 a S1 (by omega) (by omega) (h.rq g2) g1 g5 g2 g6 (by omega)
end RN
