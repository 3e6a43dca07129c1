/-! an atom, read by the class -/
section XJ
variable {Θ : GP} {ω : OW} {n : Nat} {x : TX}
theorem x_two {S : PZ} {s q : Nat} {v1 v2 : Int32} {o : Nat × Option CE} {c : CE} {r0 r1 : RO} (t : TK S x q) (hs : zF S 197 2 = nI s) (h : s + 1 < 408) (hc : c.1 = [v1, v2]) (ho : o = (q, some c)) : XCo Θ S ω n x s o (cO (laz Θ S ω) (gb Θ + 197) 3 (kI (F_X3_write Θ (gb Θ + 197) v1 (laz Θ S ω) n) (fun x32 ω n => if x32 = 0 then some (.inl (some (.int 0), ω, n)) else (cO ω (gb Θ + 197) 3 (kI (F_X3_write Θ (gb Θ + 197) v2 ω n) (fun x34 ω n => if x34 = 0 then some (.inl (some (.int 0), ω, n)) else some (.inl (some (.int 1), ω, n)))))))) := by
  obtain ⟨a1, b1⟩ := x_write (Θ := Θ) (ω := ω) (n := n) (v := v1) hs (by omega)
  have q1 : XQl S (uF (uA S 201 (upd (zA S 201) s v1)) 197 2 (nI (s + 1))) := (XQl.rf S).nA.nF
  have t1 : TK (uF (uA S 201 (upd (zA S 201) s v1)) 197 2 (nI (s + 1))) x q := t.nA.nF
  generalize uF (uA S 201 (upd (zA S 201) s v1)) 197 2 (nI (s + 1)) = S1 at *
  obtain ⟨a2, b2⟩ := x_write (Θ := Θ) (ω := ω) (n := n) (v := v2) b1.1 (by show s + 1 < 408; omega)
  have q2 : XQl S1 (uF (uA S1 201 (upd (zA S1 201) (s + [v1].length) v2)) 197 2 (nI (s + [v1].length + 1))) := (XQl.rf S1).nA.nF
  have t2 : TK (uF (uA S1 201 (upd (zA S1 201) (s + [v1].length) v2)) 197 2 (nI (s + [v1].length + 1))) x q := t1.nA.nF
  rw [d197, a1, kI_v, if_neg (show ¬ (1 : Int32) = 0 by decide), d197, a2, kI_v, if_neg (show ¬ (1 : Int32) = 0 by decide)]
  exact XCo.t rfl (q1.trans q2) t2 (by rw [hc]; exact b1.trans b2) ho
theorem x_atom (hx : x.1 ≤ 400) : ∀ (d F : Nat), d ≤ 7 → d ≤ F → 1 ≤ d → RAx Θ ω n x (atP x d) (nI (7 - d)) (F_X3_readAtom Θ F) := by
  intro d
  induction d with
  | zero => intro F _ _ h1; omega
  | succ d ih =>
    intro F h7 hF _ S q s h t hs hs4
    obtain ⟨F, rfl⟩ : ∃ g, F = g + 1 := ⟨F - 1, by omega⟩
    have hq := t.1
    show XCo Θ S ω n x s (atP x (d + 1) q) (FB_X3_readAtom Θ (F_X3_readAtom Θ F) (gb Θ + 197) (nI (7 - (d + 1))) (laz Θ S ω) n)
    unfold FB_X3_readAtom atP
    rw [a197_0, d1, x_isWord h t (s := 14) (by decide) (c := 7237492) (by decide), kI_v]
    cases h14 : isWd x q 14 with
    | true =>
      rw [if_neg (show ¬ b01 true = 0 by decide), if_pos rfl]
      unfold J_X3_readAtom_27 J_X3_readAtom_68 J_X3_readAtom_69
      by_cases y : d = 0
      · rw [if_pos y, if_neg (show ¬ nI (7 - (d + 1)) < 6 from nI_nlt (b := 6) (by omega) (by omega))]
        exact XCo.f rfl (XQl.rf S) t rfl
      · obtain ⟨S1, e1, x1, t1⟩ := x_adv (Θ := Θ) (ω := ω) (n := n) h t
        rw [wd_tkE (by decide) h14] at t1
        have hn := wd_nx (by omega) h14 hq
        have hn1 : q + 3 ≤ skT x (weT x q) := hn.1
        have hg := atG hx d _ hn.2
        rw [if_neg y, if_pos (show nI (7 - (d + 1)) < 6 from nI_lt (b := 6) (by omega) (by omega)), a197_0, d1, e1, kV_v, if_neg (show ¬ b01 true = 0 by decide), d197, nI_1, show 7 - (d + 1) + 1 = 7 - d by omega]
        obtain ⟨S2, e2, q2, t2, w2⟩ := ih F (by omega) (by omega) (by omega) S1 (skT x (weT x q)) s (h.xtk x1) t1 (by rw [x1.1 197 2 (by omega)]; exact hs) (by omega)
        rcases hm : atP x d (skT x (weT x q)) with ⟨r, _ | c⟩
        · rw [hm] at e2 t2
          rw [e2, kI_v, if_pos (show b01 (none : Option CE).isSome = 0 from rfl)]
          exact XCo.f rfl (x1.q.trans q2) t2 rfl
        · rw [hm] at e2 t2 w2 hg
          have w2 := XWl.kt x1 (w2 c rfl)
          obtain ⟨g1, g2, g3⟩ := hg
          obtain ⟨g4, g5, g6, _⟩ := g3 c rfl
          have g4 : skT x (weT x q) + c.1.length ≤ r := g4
          have g2 : r ≤ x.1 := g2
          obtain ⟨a3, b3⟩ := x_write (Θ := Θ) (ω := ω) (n := n) (v := 0) w2.1 (by omega)
          have q3 : XQl S2 (uF (uA S2 201 (upd (zA S2 201) (s + c.1.length) 0)) 197 2 (nI (s + c.1.length + 1))) := (XQl.rf S2).nA.nF
          have t3 : TK (uF (uA S2 201 (upd (zA S2 201) (s + c.1.length) 0)) 197 2 (nI (s + c.1.length + 1))) x r := TK.nF (TK.nA t2)
          rw [e2, kI_v, if_neg (som1 c), d197, a3, kI_v, if_neg (show ¬ (1 : Int32) = 0 by decide)]
          exact XCo.t (c := negC c) rfl ((x1.q.trans q2).trans q3) t3 (w2.trans b3) rfl
    | false =>
      have e40 := x_isSign (Θ := Θ) (ω := ω) (n := n) h t (c := 40) (by omega)
      have e40 : F_X8_isSign Θ (gb Θ + 1) 40 (laz Θ S ω) n = _ := e40
      rw [if_pos (show b01 false = 0 from rfl), if_neg (show ¬ false = true by decide), a197_0, d1, e40, kI_v]
      cases h40 : isSg x q 40 with
      | true =>
        have hz := sg_q h40
        rw [if_neg (show ¬ b01 true = 0 by decide), if_pos rfl]
        unfold J_X3_readAtom_27 J_X3_readAtom_96 J_X3_readAtom_97
        by_cases y : d = 0
        · rw [if_pos y, if_neg (show ¬ nI (7 - (d + 1)) < 6 from nI_nlt (b := 6) (by omega) (by omega))]
          exact XCo.f rfl (XQl.rf S) t rfl
        · obtain ⟨S1, e1, x1, t1⟩ := x_adv (Θ := Θ) (ω := ω) (n := n) h t
          rw [sg_tkE (by omega) h40] at t1
          have hs1 := skT_b (x := x) (p := q + 1) (by omega)
          rw [if_neg y, if_pos (show nI (7 - (d + 1)) < 6 from nI_lt (b := 6) (by omega) (by omega)), a197_0, d1, e1, kV_v, if_pos (show b01 false = 0 from rfl), d197, nI_1, show 7 - (d + 1) + 1 = 7 - d by omega]
          obtain ⟨S2, e2, q2, t2, w2⟩ := x_cond (ih F (by omega) (by omega) (by omega)) (atG hx d) hx (S := S1) (q := skT x (q + 1)) (s := s) (h.xtk x1) t1 (by rw [x1.1 197 2 (by omega)]; exact hs) (by omega)
          rcases hm : cdP x (atP x d) (skT x (q + 1)) with ⟨r, _ | c⟩
          · rw [hm] at e2 t2
            rw [e2, kI_v, if_pos (show b01 (none : Option CE).isSome = 0 from rfl)]
            exact XCo.f rfl (x1.q.trans q2) t2 rfl
          · rw [hm] at e2 t2 w2
            have w2 := XWl.kt x1 (w2 c rfl)
            have t2 : TK S2 x r := t2
            obtain ⟨S3, e3, x3, t3⟩ := x_takeSign (Θ := Θ) (ω := ω) (n := n) ((h.xtk x1).xq q2) t2 (c := 41) (by omega)
            have e3 : F_X8_takeSign Θ (gb Θ + 1) 41 (laz Θ S2 ω) n = _ := e3
            rw [e2, kI_v, if_neg (som1 c), a197_0, d1, e3, kI_v]
            show XCo Θ S ω n x s (if isSg x r 41 = true then (skT x (r + 1), some c) else (r, none)) _
            cases h41 : isSg x r 41 with
            | true =>
              rw [h41, if_pos rfl] at t3
              rw [if_neg (show ¬ b01 true = 0 by decide), if_pos rfl]
              exact XCo.t rfl ((x1.q.trans q2).trans x3.q) t3 (w2.tk x3) rfl
            | false =>
              rw [h41, if_neg (show ¬ false = true by decide)] at t3
              rw [if_pos (show b01 false = 0 from rfl), if_neg (show ¬ false = true by decide)]
              exact XCo.f rfl ((x1.q.trans q2).trans x3.q) t3 rfl
      | false =>
        obtain ⟨S1, e1, x1, t1⟩ := x_takeWord (Θ := Θ) (ω := ω) (n := n) h t (s := 5) (by decide) (c := 461414299507) (by decide)
        have hs1 : zF S1 197 2 = nI s := by rw [x1.1 197 2 (by omega)]; exact hs
        rw [if_pos (show b01 false = 0 from rfl), if_neg (show ¬ false = true by decide), a197_0, d1, e1, kI_v]
        cases h5 : isWd x q 5 with
        | true =>
          rw [h5, if_pos rfl] at t1
          rw [if_neg (show ¬ b01 true = 0 by decide), if_pos rfl]
          obtain ⟨S2, f1, f2, f3, f4⟩ := x_two (Θ := Θ) (ω := ω) (n := n) (v1 := 3) (v2 := 6) (c := tagC 6) (r0 := none) (r1 := none) t1 hs1 (by omega) rfl rfl
          exact ⟨S2, f1, x1.q.trans f2, f3, fun c hc => XWl.kt x1 (f4 c hc)⟩
        | false =>
          rw [h5, if_neg (show ¬ false = true by decide)] at t1
          obtain ⟨S2, e2, x2, t2⟩ := x_takeWord (Θ := Θ) (ω := ω) (n := n) (h.xtk x1) t1 (s := 13) (by decide) (c := 113753977549945) (by decide)
          have hs2 : zF S2 197 2 = nI s := by rw [x2.1 197 2 (by omega)]; exact hs1
          rw [if_pos (show b01 false = 0 from rfl), if_neg (show ¬ false = true by decide), a197_0, d1, e2, kI_v]
          cases h13 : isWd x q 13 with
          | true =>
            rw [h13, if_pos rfl] at t2
            rw [if_neg (show ¬ b01 true = 0 by decide), if_pos rfl]
            obtain ⟨S3, f1, f2, f3, f4⟩ := x_two (Θ := Θ) (ω := ω) (n := n) (v1 := 3) (v2 := 7) (c := tagC 7) (r0 := none) (r1 := none) t2 hs2 (by omega) rfl rfl
            exact ⟨S3, f1, (x1.q.trans x2.q).trans f2, f3, fun c hc => XWl.kt x1 (XWl.kt x2 (f4 c hc))⟩
          | false =>
            rw [h13, if_neg (show ¬ false = true by decide)] at t2
            rw [if_pos (show b01 false = 0 from rfl), if_neg (show ¬ false = true by decide), d197]
            obtain ⟨S3, f1, f2, f3, f4⟩ := x_cmp (Θ := Θ) (ω := ω) (n := n) ((h.xtk x1).xtk x2) t2 hs2 hs4
            refine ⟨S3, ?_, (x1.q.trans x2.q).trans f2, f3, fun c hc => XWl.kt x1 (XWl.kt x2 (f4 c hc))⟩
            rw [f1, kI_v, bz_b]
end XJ
