/-! a condition, read by the class -/
def XCo (Θ : GP) (S : PZ) (ω : OW) (n : Nat) (x : TX) (s : Nat) (o : Nat × Option CE) (r : RO) : Prop := ∃ S', r = some (.inl (some (.int (b01 o.2.isSome)), laz Θ S' ω, n)) ∧ XQl S S' ∧ TK S' x o.1 ∧ ∀ c, o.2 = some c → XWl S S' s c.1
section XH
variable {Θ : GP} {S S1 : PZ} {ω : OW} {n : Nat} {x : TX}
theorem XCo.f {s q : Nat} {o : Nat × Option CE} {r : RO} (e : r = some (.inl (some (.int 0), laz Θ S1 ω, n))) (a : XQl S S1) (t : TK S1 x q) (ho : o = (q, none)) : XCo Θ S ω n x s o r := by
  subst ho
  exact ⟨S1, e, a, t, fun c h => by cases h⟩
theorem XCo.t {s q : Nat} {o : Nat × Option CE} {r : RO} {c : CE} (e : r = some (.inl (some (.int 1), laz Θ S1 ω, n))) (a : XQl S S1) (t : TK S1 x q) (w : XWl S S1 s c.1) (ho : o = (q, some c)) : XCo Θ S ω n x s o r := by
  subst ho
  exact ⟨S1, e, a, t, fun c' h => by cases h; exact w⟩
theorem x_cmp (h : TC S x) {q s : Nat} (t : TK S x q) (hs : zF S 197 2 = nI s) (hs4 : s + (x.1 - q) ≤ 400) : XCo Θ S ω n x s (cmP x q) (F_X3_readComparison Θ (gb Θ + 197) (laz Θ S ω) n) := by
  have hx := h.2.1
  have hq := t.1
  obtain ⟨a1, b1⟩ := x_write (Θ := Θ) (ω := ω) (n := n) (v := 4) hs (by omega)
  have q1 : XQl S (uF (uA S 201 (upd (zA S 201) s 4)) 197 2 (nI (s + 1))) := (XQl.rf S).nA.nF
  have t1 : TK (uF (uA S 201 (upd (zA S 201) s 4)) 197 2 (nI (s + 1))) x q := t.nA.nF
  generalize uF (uA S 201 (upd (zA S 201) s 4)) 197 2 (nI (s + 1)) = S1 at *
  obtain ⟨a2, b2⟩ := x_write (Θ := Θ) (ω := ω) (n := n) (v := 0) b1.1 (by show s + 1 < 408; omega)
  have q2 : XQl S1 (uF (uA S1 201 (upd (zA S1 201) (s + 1) 0)) 197 2 (nI (s + 1 + 1))) := (XQl.rf S1).nA.nF
  have t2 : TK (uF (uA S1 201 (upd (zA S1 201) (s + 1) 0)) 197 2 (nI (s + 1 + 1))) x q := t1.nA.nF
  have a2 : F_X3_write Θ (gb Θ + 197) 0 (laz Θ S1 ω) n = some (.inl (some (.int 1), laz Θ (uF (uA S1 201 (upd (zA S1 201) (s + 1) 0)) 197 2 (nI (s + 1 + 1))) ω, n)) := a2
  have b2 : XWl S1 (uF (uA S1 201 (upd (zA S1 201) (s + 1) 0)) 197 2 (nI (s + 1 + 1))) (s + [(4 : Int32)].length) [0] := b2
  generalize uF (uA S1 201 (upd (zA S1 201) (s + 1) 0)) 197 2 (nI (s + 1 + 1)) = S2 at *
  have b12 := b1.trans b2
  obtain ⟨a3, b3⟩ := x_write (Θ := Θ) (ω := ω) (n := n) (v := 0) b12.1 (by show s + 2 < 408; omega)
  have q3 : XQl S2 (uF (uA S2 201 (upd (zA S2 201) (s + 2) 0)) 197 2 (nI (s + 2 + 1))) := (XQl.rf S2).nA.nF
  have t3 : TK (uF (uA S2 201 (upd (zA S2 201) (s + 2) 0)) 197 2 (nI (s + 2 + 1))) x q := t2.nA.nF
  have a3 : F_X3_write Θ (gb Θ + 197) 0 (laz Θ S2 ω) n = some (.inl (some (.int 1), laz Θ (uF (uA S2 201 (upd (zA S2 201) (s + 2) 0)) 197 2 (nI (s + 2 + 1))) ω, n)) := a3
  have b3 : XWl S2 (uF (uA S2 201 (upd (zA S2 201) (s + 2) 0)) 197 2 (nI (s + 2 + 1))) (s + ([(4 : Int32)] ++ [0]).length) [0] := b3
  generalize uF (uA S2 201 (upd (zA S2 201) (s + 2) 0)) 197 2 (nI (s + 2 + 1)) = S3 at *
  have b := b12.trans b3
  have q123 := (q1.trans q2).trans q3
  have h3 := h.xq q123
  have v0 : zA S3 201 s = 4 := b.2.1 0 (by show 0 < 3; omega)
  have v1 : zA S3 201 (s + 1) = 0 := b.2.1 1 (by show 1 < 3; omega)
  have v2 : zA S3 201 (s + 2) = nI 0 := b.2.1 2 (by show 2 < 3; omega)
  have b31 : zF S3 197 2 = nI (s + 3) := b.1
  unfold F_X3_readComparison J_X3_readComparison_29
  rw [a197_2, hs, d197, a1, kI_v, if_neg (show ¬ (1 : Int32) = 0 by decide), d197, a2, kI_v, if_neg (show ¬ (1 : Int32) = 0 by decide), d197, a3, kI_v, if_neg (show ¬ (1 : Int32) = 0 by decide)]
  unfold cmP
  have hL := x_cmL (Θ := Θ) (ω := ω) (n := n) (x := x) (s := s) (r := false) 401 q 0 5000 (s + 3) 0 0 S3 (by omega) (by omega) (by omega) h3 t3 b31 (by omega) (by omega) v1 v2
  rcases hm : smP x 401 q with ⟨r, _ | L⟩
  · rw [hm] at hL
    rcases hL with ⟨_, S4, i2, i3, i4⟩ | ⟨L, _, _, _, i1, _⟩
    · exact XCo.f i2 (q123.trans i3) i4 rfl
    · cases i1
  · rw [hm] at hL
    rcases hL with ⟨i1, _⟩ | ⟨L', S4, f', i', i1, i2, i3, i4, i5, i6, i7, i8⟩
    · cases i1
    cases i1
    have i2 : L_X3_readComparison_35 Θ 5000 (gb Θ + 197) (nI s) 0 0 (laz Θ S3 ω) n = _ := i2
    have h4 := h3.xq i3
    have i4 : TK S4 x r := i4
    have i6 : i' + (x.1 - r) ≤ 399 := i6
    have i8 : s + 3 + nfL L + (x.1 - r) ≤ 405 := i8
    have q4 := q123.trans i3
    rw [i2]
    unfold cmK J_X3_readComparison_110 J_X3_readComparison_119
    have eg := x_isSign (Θ := Θ) (ω := ω) (n := n) h4 i4 (c := 62) (by omega)
    have eg : F_X8_isSign Θ (gb Θ + 1) 62 (laz Θ S4 ω) n = _ := eg
    have el := x_isSign (Θ := Θ) (ω := ω) (n := n) h4 i4 (c := 60) (by omega)
    have el : F_X8_isSign Θ (gb Θ + 1) 60 (laz Θ S4 ω) n = _ := el
    rw [if_pos (show b01 false = 0 from rfl), a197_0, d1, eg, kI_v]
    -- the right side
    have fin : ∀ (l : Bool) (c0 : Nat) (S5 : PZ), (c0 = 60 ∨ c0 = 62) → isSg x r c0 = true → XQl S4 S5 → TK S5 x r → zF S5 197 2 = zF S4 197 2 → (∀ k, k ≠ s → zA S5 201 k = zA S4 201 k) → zA S5 201 s = (if l = true then 4 else 5) → XCo Θ S ω n x s (bnd (smP x 401 (skT x (r + 1))) (fun r' R => (r', some (cmpC l L R)))) (rA (laz Θ S5 ω) (gb Θ + 197) 3 0 (fun a1 => cO (laz Θ S5 ω) a1 8 (kV (F_X8_advance Θ a1 (laz Θ S5 ω) n) (fun ω n => L_X3_readComparison_35 Θ f' (gb Θ + 197) (nI s) 1 (nI i' + 1) ω n)))) := by
      intro l c0 S5 hc0 hsg q5 t5 z5 k5 hl
      have hg := sg_q hsg
      have h5 := h4.xq q5
      obtain ⟨S6, e6, x6, t6⟩ := x_adv (Θ := Θ) (ω := ω) (n := n) h5 t5
      rw [sg_tkE (by omega) hsg] at t6
      have hs6 := skT_b (x := x) (p := r + 1) (by omega)
      rw [a197_0, d1, e6, kV_v, nI_1]
      obtain ⟨c1, c2, c3, c4, c5⟩ := i5
      have hR := x_cmL (Θ := Θ) (ω := ω) (n := n) (x := x) (s := s) (r := true) 401 (skT x (r + 1)) (i' + 1) f' (s + 3 + nfL L) (0 + nfL L) (0 + ctX false L) S6 (by omega) (by omega) (by omega) (h5.xtk x6) t6 (by rw [x6.1 197 2 (by omega), z5]; exact c1) (by omega) (by omega) (by rw [x6.2.1, k5 _ (by omega)]; exact c3) (by rw [x6.2.1, k5 _ (by omega)]; exact c4)
      rcases hm2 : smP x 401 (skT x (r + 1)) with ⟨r', _ | R⟩
      · rw [hm2] at hR
        rcases hR with ⟨_, S7, j2, j3, j4⟩ | ⟨_, _, _, _, j1, _⟩
        · exact XCo.f j2 (((q4.trans q5).trans x6.q).trans j3) j4 rfl
        · cases j1
      · rw [hm2] at hR
        rcases hR with ⟨j1, _⟩ | ⟨R', S7, f2, i2', j1, j2, j3, j4, j5, j6, j7, j8⟩
        · cases j1
        cases j1
        have j2 : L_X3_readComparison_35 Θ f' (gb Θ + 197) (nI s) 1 (nI (i' + 1)) (laz Θ S6 ω) n = _ := j2
        rw [j2]
        obtain ⟨d1', d2, d3, d4, d5⟩ := j5
        refine XCo.t (S1 := S7) (c := cmpC l L R) ?_ (((q4.trans q5).trans x6.q).trans j3) j4 ?_ rfl
        · unfold cmK
          rw [if_neg (show ¬ b01 true = 0 by decide)]
        · have el : (cmpC l L R).1.length = 3 + (nfL L + nfL R) := by
            show ((fcX false L ++ fcX true R).length + 1 + 1 + 1) = _
            rw [List.length_append, fcX_len, fcX_len]; omega
          have z6 : ∀ k, zA S6 201 k = zA S5 201 k := fun k => by rw [x6.2.1]
          refine ⟨by rw [d1', el]; congr 1; omega, ?_, fun k hk => ?_⟩
          · refine lsA_cons (by rw [d5 s (by omega) (by omega) (by omega), z6, hl]) (lsA_cons (by rw [d3, Int32.zero_add]) (lsA_cons (by show zA S7 201 (s + 2) = _; rw [d4, Nat.zero_add]) ?_))
            refine lsA_app (s := s + 3) (lsA_cg c2 (Nat.le_refl _) (fun k hk hk2 => ?_)) (by rw [fcX_len]; exact d2)
            rw [fcX_len] at hk2
            rw [d5 k (by omega) (by omega) (by omega), z6, k5 k (by omega)]
          · rw [d5 k (by omega) (by omega) (by omega), z6, k5 k (by omega), c5 k (by omega) (by omega) (by omega), b.2.2 k hk]
    show XCo Θ S ω n x s (if isSg x r 60 = true then bnd (smP x 401 (skT x (r + 1))) (fun r' R => (r', some (cmpC true L R))) else if isSg x r 62 = true then bnd (smP x 401 (skT x (r + 1))) (fun r' R => (r', some (cmpC false L R))) else (r, none)) _
    have v4 : zA S4 201 s = 4 := by rw [i5.2.2.2.2 s (by omega) (by omega) (by omega)]; exact v0
    cases g62 : isSg x r 62 with
    | true =>
      have n60 : isSg x r 60 = false := decide_eq_false (fun u => by have := (of_decide_eq_true g62).2; omega)
      rw [if_neg (show ¬ b01 true = 0 by decide), a197_6, s_201 (by omega), n60, if_neg (show ¬ false = true by decide), if_pos rfl]
      exact fin false 62 _ (Or.inr rfl) g62 (XQl.rf S4).nA i4.nA rfl (fun k hk => upd_ne _ _ hk) (upd_same _ _ _)
    | false =>
      rw [if_pos (show b01 false = 0 from rfl), a197_0, d1, el, kI_v]
      cases g60 : isSg x r 60 with
      | true =>
        rw [if_neg (show ¬ b01 true = 0 by decide), if_pos rfl]
        exact fin true 60 S4 (Or.inl rfl) g60 (XQl.rf S4) i4 rfl (fun k _ => rfl) v4
      | false =>
        rw [if_pos (show b01 false = 0 from rfl), if_neg (show ¬ false = true by decide), if_neg (show ¬ false = true by decide)]
        exact XCo.f rfl q4 i4 rfl
end XH
