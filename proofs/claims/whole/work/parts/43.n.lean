/-! an atom, read by the reference -/
section RO'
variable {Θ : GP} {S : PZ} {ω : OW} {n : Nat} {x : TX}
theorem RQl.n13 {S' : PZ} (h : RQl S S') {v : Int32} : RQl S (uF S' 218 13 v) := ⟨fun k j q => by rw [zF_ne _ _ (by omega)]; exact h.1 k j q, h.2.1, h.2.2.1, h.2.2.2.1, h.2.2.2.2⟩
theorem m_tag (h : MTx S x) {p b q i : Nat} (hp : p ≤ x.1) (hq : skT x p = q) (hi : zF S 218 16 = nI i) (h4 : i ≤ 399) : ∃ S' p' b', RQl S S' ∧ p' ≤ x.1 ∧ (((isWd x q 5 = true ∨ isWd x q 13 = true) ∧ F_X11_readTag Θ (gb Θ + 218) (laz Θ (mT S p b) ω) n = some (.inl (some (.int 1), laz Θ (mT S' p' b') ω, n)) ∧ skT x p' = skT x (weT x q) ∧ RWl S S' i [(if isWd x q 5 = true then 6 else 7, 0)]) ∨ (¬ isWd x q 5 = true ∧ ¬ isWd x q 13 = true ∧ S' = S ∧ p' = q ∧ F_X11_readTag Θ (gb Θ + 218) (laz Θ (mT S p b) ω) n = some (.inl (some (.int 0), laz Θ (mT S' p' b') ω, n)))) := by
  have hs := skT_b hp
  rw [hq] at hs
  have hw := weT_b hs.2
  unfold F_X11_readTag J_X11_readTag_33 J_X11_readTag_55 J_X11_readTag_64
  rw [d218, m_letters h hp, kV_v, hq, d218, m_isWord h (by decide) hs.2, kI_v]
  cases h5 : isWd x q 5 with
  | true =>
    obtain ⟨S1, e1, q1, w1⟩ := m_emits (Θ := Θ) (ω := ω) (n := n) (p := weT x q) (b := q) (u := 6) (v := 0) hi h4
    rw [if_neg (show ¬ b01 true = 0 by decide), if_neg (show ¬ (6 : Int32) < 0 by decide), d218, e1, kV_v, if_neg (show ¬ (6 : Int32) < 0 by decide), bz_1]
    exact ⟨S1, weT x q, q, q1, hw.2, Or.inl ⟨Or.inl rfl, rfl, rfl, w1⟩⟩
  | false =>
    rw [if_pos (show b01 false = 0 from rfl), d218, m_isWord h (by decide) hs.2, kI_v]
    cases h13 : isWd x q 13 with
    | true =>
      obtain ⟨S1, e1, q1, w1⟩ := m_emits (Θ := Θ) (ω := ω) (n := n) (p := weT x q) (b := q) (u := 7) (v := 0) hi h4
      rw [if_neg (show ¬ b01 true = 0 by decide), if_neg (show ¬ (7 : Int32) < 0 by decide), d218, e1, kV_v, if_neg (show ¬ (7 : Int32) < 0 by decide), bz_1]
      exact ⟨S1, weT x q, q, q1, hw.2, Or.inl ⟨Or.inr rfl, rfl, rfl, w1⟩⟩
    | false =>
      rw [if_pos (show b01 false = 0 from rfl), if_pos (show (-1 : Int32) < 0 by decide), a218_12, mT_b, b218_10, mT_up, if_pos (show (-1 : Int32) < 0 by decide), bz_0]
      exact ⟨S, q, q, RQl.rf S, hs.2, Or.inr ⟨by decide, by decide, rfl, rfl, rfl⟩⟩
theorem m_atom (hx : x.1 ≤ 400) : ∀ (d F : Nat), d ≤ 7 → d ≤ F → 1 ≤ d → RAm Θ ω n x (atP x d) (7 - d) (F_X11_readAtom Θ F) := by
  intro d
  induction d with
  | zero => intro F _ _ h1; omega
  | succ d ih =>
    intro F h7 hF _ S p b q i h hp hq hi hd h4
    obtain ⟨F, rfl⟩ : ∃ g, F = g + 1 := ⟨F - 1, by omega⟩
    have hs := skT_b hp
    rw [hq] at hs
    have hqq : skT x q = q := by rw [← hq, skT_sk]
    show RPo Θ S ω n x i (atP x (d + 1) q).1 (cdO (atP x (d + 1) q)) (FB_X11_readAtom Θ (F_X11_readAtom Θ F) (gb Θ + 218) (laz Θ (mT S p b) ω) n)
    have e40 := m_sign (Θ := Θ) (ω := ω) (n := n) (b := b) h (c := 40) (by omega) hp
    have e40 : F_X11_sign Θ (gb Θ + 218) 40 (laz Θ (mT S p b) ω) n = _ := e40
    rw [hq] at e40
    have ed : ∀ p b, zF (mT S p b) 218 13 = nI (7 - (d + 1)) := fun p b => by rw [mT_ne _ _ _ (by omega)]; exact hd
    unfold FB_X11_readAtom atP
    rw [d218, e40, kI_v]
    cases h40 : isSg x q 40 with
    | true =>
      have hz := sg_q h40
      have hs1 := skT_b (x := x) (p := q + 1) (by omega)
      have n14 : isWd x q 14 = false := by
        cases h14 : isWd x q 14 with
        | false => rfl
        | true =>
          have hh := of_decide_eq_true h14
          have hE := wsE_r 14 (by omega)
          have h1 := (of_decide_eq_true h40).2
          have hlt : ltP x q = false := decide_eq_false (fun u => by omega)
          rw [weT_n hlt] at hh
          omega
      rw [if_neg (show ¬ b01 true = 0 by decide), if_pos rfl, n14, if_neg (show ¬ false = true by decide), if_pos rfl, a218_13, ed]
      by_cases y : d = 0
      · rw [if_pos y, if_pos (show nI (7 - (d + 1)) = 6 by rw [show 7 - (d + 1) = 6 by omega]; rfl)]
        exact RPo.f rfl (by omega) (RQl.rf S) rfl rfl
      · have eS : uF (mT S (q + 1) q) 218 13 (nI (7 - d)) = mT (uF S 218 13 (nI (7 - d))) (q + 1) q := mT_u _ _ _ _ (by omega)
        have hU : RQl S (uF S 218 13 (nI (7 - d))) := (RQl.rf S).n13
        rw [if_neg y, if_neg (show ¬ nI (7 - (d + 1)) = 6 from fun u => y (by have := (nI_eq (b := 6) (by omega) (by omega)).mp u; omega)), a218_13, ed, nI_1, show 7 - (d + 1) + 1 = 7 - d by omega, b218_13, eS, d218]
        obtain ⟨S1, p1, b1, e1, g1, g2, g3, g4⟩ := m_cond (ih F (by omega) (by omega) (by omega)) (atG hx d) (uF S 218 13 (nI (7 - d))) (q + 1) q (skT x (q + 1)) i (h.rq hU) (by omega) rfl (by rw [zF_ne _ _ (by omega)]; exact hi) (zF_eq _ _ _ _) (by omega)
        have hg := cdPG (atG hx d) hs1.2
        rcases hm : cdP x (atP x d) (skT x (q + 1)) with ⟨r, _ | c⟩
        · rw [hm] at e1 g3
          rw [e1, kI_v, if_pos (show b01 (cdO (r, none)).isSome = 0 from rfl)]
          exact RPo.f rfl g1 (hU.trans g2) rfl (g3 rfl)
        · rw [hm] at e1 g4 hg
          obtain ⟨g5, g6⟩ := g4 _ rfl
          have g5 : skT x p1 = r := g5
          have g6 : RWl (uF S 218 13 (nI (7 - d))) S1 i c.2.1 := g6
          have hr : r ≤ x.1 := hg.2.1
          have e13 : zF (mT S1 p1 b1) 218 13 = nI (7 - d) := by rw [mT_ne _ _ _ (by omega), g6.2.1, zF_eq]
          have q13 : RQl S (uF S1 218 13 (nI (7 - (d + 1)))) := (hU.trans g2).n13
          have w13 : RWl S (uF S1 218 13 (nI (7 - (d + 1)))) i c.2.1 := ⟨by rw [zF_ne _ _ (by omega)]; exact g6.1, by rw [zF_eq, hd], g6.2.2.1, g6.2.2.2⟩
          have e41 := m_sign (Θ := Θ) (S := uF S1 218 13 (nI (7 - (d + 1)))) (ω := ω) (n := n) (b := b1) (h.rq q13) (c := 41) (by omega) g1
          have e41 : F_X11_sign Θ (gb Θ + 218) 41 (laz Θ (mT (uF S1 218 13 (nI (7 - (d + 1)))) p1 b1) ω) n = _ := e41
          rw [g5] at e41
          rw [e1, kI_v, if_neg (show ¬ b01 (cdO (r, some c)).isSome = 0 from isS c), a218_13, e13, show nI (7 - d) - 1 = nI (7 - (d + 1)) from (by show nI (7 - d) - nI 1 = _; rw [nI_sub (by omega)]; rfl), b218_13, mT_u _ _ _ _ (by omega), d218, e41, kI_v]
          show RPo Θ S ω n x i (if isSg x r 41 = true then (skT x (r + 1), some c) else (r, none)).1 (cdO (if isSg x r 41 = true then (skT x (r + 1), some c) else (r, none))) _
          cases h41 : isSg x r 41 with
          | true =>
            have := sg_q h41
            rw [if_pos rfl, if_pos rfl]
            exact RPo.t rfl (show r + 1 ≤ x.1 by omega) q13 w13 rfl rfl
          | false =>
            rw [if_neg (show ¬ false = true by decide), if_neg (show ¬ false = true by decide)]
            exact RPo.f rfl hr q13 rfl rfl
    | false =>
      rw [if_pos (show b01 false = 0 from rfl), if_neg (show ¬ false = true by decide), if_neg (show ¬ false = true by decide), d218, m_passes h (by decide) hs.2, kI_v, hqq]
      cases h14 : isWd x q 14 with
      | true =>
        have hn := wd_nx (by omega) h14 hs.2
        have hn1 : q + 3 ≤ skT x (weT x q) := hn.1
        have hwq := weT_b hs.2
        rw [if_neg (show ¬ b01 true = 0 by decide), if_pos rfl, if_pos rfl, a218_13, ed]
        by_cases y : d = 0
        · rw [if_pos y, if_pos (show nI (7 - (d + 1)) = 6 by rw [show 7 - (d + 1) = 6 by omega]; rfl)]
          exact RPo.f rfl hwq.2 (RQl.rf S) rfl rfl
        · have eS : uF (mT S (weT x q) q) 218 13 (nI (7 - d)) = mT (uF S 218 13 (nI (7 - d))) (weT x q) q := mT_u _ _ _ _ (by omega)
          have hU : RQl S (uF S 218 13 (nI (7 - d))) := (RQl.rf S).n13
          rw [if_neg y, if_neg (show ¬ nI (7 - (d + 1)) = 6 from fun u => y (by have := (nI_eq (b := 6) (by omega) (by omega)).mp u; omega)), a218_13, ed, nI_1, show 7 - (d + 1) + 1 = 7 - d by omega, b218_13, eS, d218]
          obtain ⟨S1, p1, b1, e1, g1, g2, g3, g4⟩ := ih F (by omega) (by omega) (by omega) (uF S 218 13 (nI (7 - d))) (weT x q) q (skT x (weT x q)) i (h.rq hU) hwq.2 rfl (by rw [zF_ne _ _ (by omega)]; exact hi) (zF_eq _ _ _ _) (by omega)
          have hg := atG hx d _ hn.2
          rcases hm : atP x d (skT x (weT x q)) with ⟨r, _ | c⟩
          · rw [hm] at e1 g3
            rw [e1, kI_v, if_pos (show b01 (cdO (r, none)).isSome = 0 from rfl)]
            exact RPo.f rfl g1 (hU.trans g2) rfl (g3 rfl)
          · rw [hm] at e1 g4 hg
            obtain ⟨g5, g6⟩ := g4 _ rfl
            have g5 : skT x p1 = r := g5
            have g6 : RWl (uF S 218 13 (nI (7 - d))) S1 i c.2.1 := g6
            obtain ⟨y1, y2, y3⟩ := hg
            obtain ⟨y4, y5, y6, _⟩ := y3 c rfl
            have y5 : skT x (weT x q) + c.2.1.length ≤ r := y5
            have y2 : r ≤ x.1 := y2
            have e13 : zF (mT S1 p1 b1) 218 13 = nI (7 - d) := by rw [mT_ne _ _ _ (by omega), g6.2.1, zF_eq]
            have q13 : RQl S (uF S1 218 13 (nI (7 - (d + 1)))) := (hU.trans g2).n13
            have w13 : RWl S (uF S1 218 13 (nI (7 - (d + 1)))) i c.2.1 := ⟨by rw [zF_ne _ _ (by omega)]; exact g6.1, by rw [zF_eq, hd], g6.2.2.1, g6.2.2.2⟩
            obtain ⟨S2, e2, q2, w2⟩ := m_emits (Θ := Θ) (S := uF S1 218 13 (nI (7 - (d + 1)))) (ω := ω) (n := n) (p := p1) (b := b1) (u := 12) (v := 0) w13.1 (by omega)
            rw [e1, kI_v, if_neg (show ¬ b01 (cdO (r, some c)).isSome = 0 from isS c), a218_13, e13, show nI (7 - d) - 1 = nI (7 - (d + 1)) from (by show nI (7 - d) - nI 1 = _; rw [nI_sub (by omega)]; rfl), b218_13, mT_u _ _ _ _ (by omega), d218, e2, kV_v]
            exact RPo.t rfl g1 (q13.trans q2) (w13.trans w2) g5 rfl
      | false =>
        rw [if_pos (show b01 false = 0 from rfl), if_neg (show ¬ false = true by decide), if_neg (show ¬ false = true by decide), d218]
        obtain ⟨S1, p1, b1, q1, hp1, o⟩ := m_tag (Θ := Θ) (ω := ω) (n := n) (b := q) h hs.2 hqq hi (by omega)
        rcases o with ⟨hh, e1, g5, w1⟩ | ⟨n5, n13, rfl, rfl, e1⟩
        · rw [e1, kI_v, if_neg (show ¬ (1 : Int32) = 0 by decide)]
          by_cases u : isWd x q 5 = true
          · rw [if_pos u] at w1
            rw [if_pos u]
            exact RPo.t rfl hp1 q1 w1 g5 rfl
          · rw [if_neg u] at w1
            rw [if_neg u, if_pos (hh.resolve_left u)]
            exact RPo.t rfl hp1 q1 w1 g5 rfl
        · rw [e1, kI_v, if_pos rfl, if_neg n5, if_neg n13]
          exact m_cmp h hp1 hqq hi h4
end RO'
