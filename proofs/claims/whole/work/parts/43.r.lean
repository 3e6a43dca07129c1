/-! all lines of the law, read by the class -/
def XQ4 (S S' : PZ) : Prop := (∀ k j, ¬ (k = 1 ∧ 1 ≤ j ∧ j ≤ 3) → ¬ (k = 197 ∧ (j = 1 ∨ j = 2)) → zF S' k j = zF S k j) ∧ (∀ k, ¬ (198 ≤ k ∧ k ≤ 201) → zA S' k = zA S k) ∧ (∀ k j, zR S' k j = zR S k j) ∧ (∀ k, k ≠ 1 → zL S' k = zL S k) ∧ zA S' 200 0 = zA S 200 0
def LXr (S' : PZ) : Nat → Nat → List LI → Prop
  | _, _, [] => True
  | l, s, ln :: L => (zA S' 198 l = ln.1 ∧ zA S' 199 l = ln.2.1 ∧ zA S' 200 l = nI s ∧ zA S' 200 (l + 1) = nI (s + ln.2.2.1.length) ∧ lsA (zA S' 201) s ln.2.2.1) ∧ LXr S' (l + 1) (s + ln.2.2.1.length) L
def tlX : List LI → Nat
  | [] => 0
  | ln :: L => ln.2.2.1.length + tlX L
section LL
variable {Θ : GP} {S S' S'' : PZ} {ω : OW} {n : Nat} {x : TX}
theorem XQ4.trans (h : XQ4 S S') (g : XQ4 S' S'') : XQ4 S S'' := ⟨fun k j q z => (g.1 k j q z).trans (h.1 k j q z), fun k z => (g.2.1 k z).trans (h.2.1 k z), fun k j => (g.2.2.1 k j).trans (h.2.2.1 k j), fun k q => (g.2.2.2.1 k q).trans (h.2.2.2.1 k q), g.2.2.2.2.trans h.2.2.2.2⟩
theorem XQ4.rf (S : PZ) : XQ4 S S := ⟨fun _ _ _ _ => rfl, fun _ _ => rfl, fun _ _ => rfl, fun _ _ => rfl, rfl⟩
theorem XQ2.f (h : XQ2 S S') : XQ4 S S' := ⟨fun k j q z => h.1 k j q (by omega), h.2.1, h.2.2.2.1, h.2.2.2.2, by rw [h.2.2.1]⟩
theorem TC.x4 (h : TC S x) (t : XQ4 S S') : TC S' x := ⟨by rw [t.1 1 0 (by omega) (by omega)]; exact h.1, h.2.1, by rw [t.2.1 2 (by omega)]; exact h.2.2⟩
theorem x_lawL (hx : x.1 ≤ 400) : ∀ (k l f : Nat) (S : PZ) (q s : Nat), l + k = 12 → k < f → TC S x → TK S x q → zF S 197 2 = nI s → s ≤ q → zA S 200 l = nI s →
    ((lwL x k q).2 = none ∧ ∃ S', L_X3_read_34 Θ f (gb Θ + 197) (nI l) (laz Θ S ω) n = some (.inl (some .null, laz Θ S' ω, n)) ∧ XQ4 S S' ∧ TK S' x (lwL x k q).1) ∨
    ∃ L S', (lwL x k q).2 = some L ∧ L_X3_read_34 Θ f (gb Θ + 197) (nI l) (laz Θ S ω) n = cO (laz Θ S' ω) (gb Θ + 197) 3 (kA (F_X3_made Θ (gb Θ + 197) (laz Θ S' ω) n) (fun a13 ω n => some (.inl (some (.ref a13), ω, n)))) ∧ XQ4 S S' ∧ TK S' x (lwL x k q).1 ∧ LXr S' l s L ∧ (zF S' 197 1 = nI (l + L.length) ∧ zF S' 197 2 = nI (s + tlX L)) ∧ (∀ j, j < l → zA S' 198 j = zA S 198 j ∧ zA S' 199 j = zA S 199 j) ∧ (∀ j, j ≤ l → zA S' 200 j = zA S 200 j) ∧ ∀ j, j < s → zA S' 201 j = zA S 201 j := by
  intro k
  induction k with
  | zero =>
    intro l f S q s h1 h2 h t hs hsq h0
    obtain ⟨f, rfl⟩ : ∃ g, f = g + 1 := ⟨f - 1, by omega⟩
    refine Or.inl ⟨rfl, S, ?_, XQ4.rf S, t⟩
    unfold L_X3_read_34 B_X3_read_34
    rw [if_pos (show (12 : Int32) ≤ nI l from nI_le (a := 12) (by omega) (by omega))]
  | succ k ih =>
    intro l f S q s h1 h2 h t hs hsq h0
    obtain ⟨f, rfl⟩ : ∃ g, f = g + 1 := ⟨f - 1, by omega⟩
    have hq := t.1
    obtain ⟨S1, e1, k1, t1, c1⟩ := x_lnLaw (Θ := Θ) (ω := ω) (n := n) h (l := l) (s := s) (by omega) t hs (by omega)
    have hg := liG hx hq
    show (_ ∧ ∃ S', B_X3_read_34 Θ (L_X3_read_34 Θ f) (gb Θ + 197) (nI l) (laz Θ S ω) n = _ ∧ _) ∨ ∃ L S', _ ∧ B_X3_read_34 Θ (L_X3_read_34 Θ f) (gb Θ + 197) (nI l) (laz Θ S ω) n = _ ∧ _
    unfold B_X3_read_34 lwL
    rw [if_neg (show ¬ (12 : Int32) ≤ nI l from nI_ge (b := 12) (by omega) (by omega)), d197]
    rcases hm : liP x q with ⟨r, _ | ln⟩
    · rw [hm] at e1 t1
      rw [e1, kI_v, if_pos (show b01 (none : Option LI).isSome = 0 from rfl)]
      exact Or.inl ⟨rfl, S1, rfl, k1.f, t1⟩
    · rw [hm] at e1 t1 c1 hg
      obtain ⟨c2, c3, c4, c5, c6⟩ := c1 ln rfl
      obtain ⟨g1, g2, g3⟩ := hg
      obtain ⟨g4, g5, g6, _⟩ := g3 ln rfl
      have g4 : q + ln.2.2.1.length ≤ r := g4
      have g2 : r ≤ x.1 := g2
      have t1 : TK S1 x r := t1
      have hS2 : XQ4 S (uA (uF S1 197 1 (nI (l + 1))) 200 (upd (zA S1 200) (l + 1) (nI (s + ln.2.2.1.length)))) := ⟨fun k j q z => by rw [zF_uA, zF_ne _ _ (by omega), k1.1 k j q (by omega)], fun a z => by rw [zA_ne _ _ (by omega), zA_uF, k1.2.1 a z], k1.2.2.2.1, k1.2.2.2.2, by rw [zA_eq, upd_ne _ _ (by omega), k1.2.2.1]⟩
      have t2 : TK (uA (uF S1 197 1 (nI (l + 1))) 200 (upd (zA S1 200) (l + 1) (nI (s + ln.2.2.1.length)))) x r := ⟨t1.1, by rw [zF_uA, zF_ne _ _ (by omega)]; exact t1.2.1, by rw [zF_uA, zF_ne _ _ (by omega)]; exact t1.2.2.1, by rw [zF_uA, zF_ne _ _ (by omega)]; exact t1.2.2.2.1, t1.2.2.2.2⟩
      rw [e1, kI_v, if_neg (show ¬ b01 (some ln).isSome = 0 from (show ¬ b01 true = 0 by decide)), nI_1, b197_1, a197_5, a197_1, zF_eq, a197_2, zF_ne _ _ (by omega), c4, s_200 (by omega), zA_uF]
      have r8 : zA (uA (uF S1 197 1 (nI (l + 1))) 200 (upd (zA S1 200) (l + 1) (nI (s + ln.2.2.1.length)))) 198 = upd (zA S 198) l ln.1 := by rw [zA_ne _ _ (by omega), zA_uF]; exact c2
      have r9 : zA (uA (uF S1 197 1 (nI (l + 1))) 200 (upd (zA S1 200) (l + 1) (nI (s + ln.2.2.1.length)))) 199 = upd (zA S 199) l ln.2.1 := by rw [zA_ne _ _ (by omega), zA_uF]; exact c3
      have r0 : zA (uA (uF S1 197 1 (nI (l + 1))) 200 (upd (zA S1 200) (l + 1) (nI (s + ln.2.2.1.length)))) 200 = upd (zA S 200) (l + 1) (nI (s + ln.2.2.1.length)) := by rw [zA_eq, k1.2.2.1]
      have r1 : zA (uA (uF S1 197 1 (nI (l + 1))) 200 (upd (zA S1 200) (l + 1) (nI (s + ln.2.2.1.length)))) 201 = zA S1 201 := by rw [zA_ne _ _ (by omega), zA_uF]
      have rf1 : zF (uA (uF S1 197 1 (nI (l + 1))) 200 (upd (zA S1 200) (l + 1) (nI (s + ln.2.2.1.length)))) 197 1 = nI (l + 1) := by rw [zF_uA, zF_eq]
      have rf2 : zF (uA (uF S1 197 1 (nI (l + 1))) 200 (upd (zA S1 200) (l + 1) (nI (s + ln.2.2.1.length)))) 197 2 = nI (s + ln.2.2.1.length) := by rw [zF_uA, zF_ne _ _ (by omega)]; exact c4
      generalize uA (uF S1 197 1 (nI (l + 1))) 200 (upd (zA S1 200) (l + 1) (nI (s + ln.2.2.1.length))) = S2 at *
      have h2' := h.x4 hS2
      rw [a197_0, d1, x_isEnded t2, kI_v]
      by_cases y : x.1 ≤ r
      · rw [decide_eq_true y, if_neg (show ¬ b01 true = 0 by decide)]
        refine Or.inr ⟨[ln], S2, ?_, rfl, hS2, ?_, ⟨⟨by rw [r8, upd_same], by rw [r9, upd_same], by rw [r0, upd_ne _ _ (by omega)]; exact h0, by rw [r0, upd_same], by rw [r1]; exact c5⟩, trivial⟩, ⟨rf1, rf2⟩, fun j hj => ⟨by rw [r8, upd_ne _ _ (by omega)], by rw [r9, upd_ne _ _ (by omega)]⟩, fun j hj => by rw [r0, upd_ne _ _ (by omega)], fun j hj => by rw [r1]; exact c6 j hj⟩
        · show ((if x.1 ≤ r then (r, some [ln]) else if isSg x r 59 = true then bnd (lwL x k (skT x (r + 1))) (fun r' L => (r', some (ln :: L))) else (r, none)) : Nat × Option (List LI)).2 = _
          rw [if_pos y]
        · show TK S2 x ((if x.1 ≤ r then (r, some [ln]) else if isSg x r 59 = true then bnd (lwL x k (skT x (r + 1))) (fun r' L => (r', some (ln :: L))) else (r, none)) : Nat × Option (List LI)).1
          rw [if_pos y]; exact t2
      · obtain ⟨S3, e3, x3, t3⟩ := x_takeSign (Θ := Θ) (ω := ω) (n := n) h2' t2 (c := 59) (by omega)
        have e3 : F_X8_takeSign Θ (gb Θ + 1) 59 (laz Θ S2 ω) n = _ := e3
        rw [decide_eq_false y, if_pos (show b01 false = 0 from rfl), a197_0, d1, e3, kI_v]
        cases sg : isSg x r 59 with
        | false =>
          rw [sg, if_neg (show ¬ false = true by decide)] at t3
          rw [if_pos (show b01 false = 0 from rfl)]
          have eW : bnd (r, some ln) (fun r l => if x.1 ≤ r then (r, some [l]) else if isSg x r 59 = true then bnd (lwL x k (skT x (r + 1))) (fun r' L => (r', some (l :: L))) else (r, none)) = (r, none) := by
            show ((if x.1 ≤ r then (r, some [ln]) else if isSg x r 59 = true then bnd (lwL x k (skT x (r + 1))) (fun r' L => (r', some (ln :: L))) else (r, none)) : Nat × Option (List LI)) = _
            rw [if_neg y, sg, if_neg (show ¬ false = true by decide)]
          refine Or.inl ⟨?_, S3, rfl, hS2.trans x3.l.f, ?_⟩
          · exact congrArg Prod.snd eW
          · rw [eW]; exact t3
        | true =>
          rw [sg, if_pos rfl] at t3
          have hz := sg_q sg
          have hs3 := skT_b (x := x) (p := r + 1) (by omega)
          have eW : bnd (r, some ln) (fun r l => if x.1 ≤ r then (r, some [l]) else if isSg x r 59 = true then bnd (lwL x k (skT x (r + 1))) (fun r' L => (r', some (l :: L))) else (r, none)) = bnd (lwL x k (skT x (r + 1))) (fun r' L => (r', some (ln :: L))) := by
            show ((if x.1 ≤ r then (r, some [ln]) else if isSg x r 59 = true then bnd (lwL x k (skT x (r + 1))) (fun r' L => (r', some (ln :: L))) else (r, none)) : Nat × Option (List LI)) = _
            rw [if_neg y, sg, if_pos rfl]
          rw [if_neg (show ¬ b01 true = 0 by decide)]
          have hI := ih (l + 1) f S3 (skT x (r + 1)) (s + ln.2.2.1.length) (by omega) (by omega) (h2'.xtk x3) t3 (by rw [x3.1 197 2 (by omega)]; exact rf2) (by omega) (by rw [x3.2.1, r0, upd_same])
          rcases hm2 : lwL x k (skT x (r + 1)) with ⟨r', _ | L⟩
          · rw [hm2] at hI eW
            rcases hI with ⟨_, S4, i2, i3, i4⟩ | ⟨_, _, i1, _⟩
            · refine Or.inl ⟨congrArg Prod.snd eW, S4, i2, (hS2.trans x3.l.f).trans i3, ?_⟩
              rw [eW]; exact i4
            · cases i1
          · rw [hm2] at hI eW
            rcases hI with ⟨i1, _⟩ | ⟨L', S4, i1, i2, i3, i4, i5, i6, i7, i8, i9⟩
            · cases i1
            cases i1
            refine Or.inr ⟨ln :: L, S4, congrArg Prod.snd eW, i2, (hS2.trans x3.l.f).trans i3, ?_, ⟨⟨?_, ?_, ?_, ?_, ?_⟩, i5⟩, ⟨?_, ?_⟩, fun j hj => ?_, fun j hj => ?_, fun j hj => ?_⟩
            · rw [eW]; exact i4
            · rw [(i7 l (by omega)).1, x3.2.1, r8, upd_same]
            · rw [(i7 l (by omega)).2, x3.2.1, r9, upd_same]
            · rw [i8 l (by omega), x3.2.1, r0, upd_ne _ _ (by omega)]; exact h0
            · rw [i8 (l + 1) (by omega), x3.2.1, r0, upd_same]
            · exact lsA_cg c5 (Nat.le_refl _) (fun j _ hj => by rw [i9 j hj, x3.2.1, r1])
            · rw [i6.1, List.length_cons]; congr 1; omega
            · rw [i6.2]; congr 1; show _ = s + (ln.2.2.1.length + tlX L); omega
            · rw [(i7 j (by omega)).1, (i7 j (by omega)).2, x3.2.1, x3.2.1, r8, r9, upd_ne _ _ (by omega), upd_ne _ _ (by omega)]; exact ⟨rfl, rfl⟩
            · rw [i8 j (by omega), x3.2.1, r0, upd_ne _ _ (by omega)]
            · rw [i9 j (by omega), x3.2.1, r1]; exact c6 j hj
end LL
