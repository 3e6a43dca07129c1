/-! sums and comparisons, read by the reference -/
section RL
variable {Θ : GP} {S S0 S1 : PZ} {ω : OW} {n : Nat} {x : TX}
theorem RPo.f {i r0 p b : Nat} {o : Option (List (Int32 × Int32))} {r : RO} (e : r = some (.inl (some (.int 0), laz Θ (mT S1 p b) ω, n))) (hp : p ≤ x.1) (a : RQl S S1) (ho : o = none) (hb : b = r0) : RPo Θ S ω n x i r0 o r := by
  subst ho
  exact ⟨S1, p, b, e, hp, a, fun _ => hb, fun L hL => by cases hL⟩
theorem RPo.t {i r0 p b : Nat} {o : Option (List (Int32 × Int32))} {r : RO} {L : List (Int32 × Int32)} (e : r = some (.inl (some (.int 1), laz Θ (mT S1 p b) ω, n))) (hp : p ≤ x.1) (a : RQl S S1) (w : RWl S S1 i L) (hs : skT x p = r0) (ho : o = some L) : RPo Θ S ω n x i r0 o r := by
  subst ho
  exact ⟨S1, p, b, e, hp, a, (fun hL => by cases hL), fun L' hL => by cases hL; exact ⟨hs, w⟩⟩
def smT (x : TX) (k q1 : Nat) : Nat × Option (List PT) := if isSg x q1 43 = true then smP x k (skT x (q1 + 1)) else (q1, some [])
theorem smP_T {k q : Nat} {a : PT} (h : ptR x q = some a) : smP x (k + 1) q = bnd (smT x k (skT x (tkE x q))) (fun r L => (r, some (a :: L))) := by
  show bnd (q, ptR x q) _ = _
  rw [h]
  show (if isSg x (skT x (tkE x q)) 43 = true then bnd (smP x k (skT x (skT x (tkE x q) + 1))) (fun r L => (r, some (a :: L))) else (skT x (tkE x q), some [a])) = _
  unfold smT
  by_cases z : isSg x (skT x (tkE x q)) 43 = true
  · rw [if_pos z, if_pos z]
  · rw [if_neg z, if_neg z]; rfl
theorem smP_N {k q : Nat} (h : ptR x q = none) : smP x (k + 1) q = (q, none) := by
  show bnd (q, ptR x q) _ = _
  rw [h]; rfl
theorem m_sumL {i0 : Nat} : ∀ (k p b q1 i f : Nat) (S : PZ) (A : List (Int32 × Int32)), x.1 ≤ q1 + k → k < f → MTx S x → p ≤ x.1 → skT x p = q1 → RQl S0 S → RWl S0 S i0 A → i = i0 + A.length → i + (x.1 - q1) ≤ 393 → RPo Θ S0 ω n x i0 (smT x k q1).1 ((smT x k q1).2.map (fun L => A ++ rsM L)) (L_X11_readSum_9 Θ f (gb Θ + 218) (laz Θ (mT S p b) ω) n) := by
  intro k
  induction k with
  | zero =>
    intro p b q1 i f S A h0 hf h hp hq hQ hw hi h4
    obtain ⟨f, rfl⟩ : ∃ g, f = g + 1 := ⟨f - 1, by omega⟩
    have hs := skT_b hp
    have ns : isSg x q1 43 = false := decide_eq_false (fun u => by omega)
    have e := m_sign (Θ := Θ) (ω := ω) (n := n) (b := b) h (c := 43) (by omega) hp
    have e : F_X11_sign Θ (gb Θ + 218) 43 (laz Θ (mT S p b) ω) n = _ := e
    rw [hq, ns, if_neg (show ¬ false = true by decide)] at e
    unfold L_X11_readSum_9 B_X11_readSum_9 smT
    rw [d218, e, kI_v, if_pos (show b01 false = 0 from rfl), ns, if_neg (show ¬ false = true by decide)]
    exact RPo.t rfl (by omega) hQ hw (by rw [← hq, skT_sk]) (by show some (A ++ []) = _; rw [List.append_nil])
  | succ k ih =>
    intro p b q1 i f S A h0 hf h hp hq hQ hw hi h4
    obtain ⟨f, rfl⟩ : ∃ g, f = g + 1 := ⟨f - 1, by omega⟩
    have hs := skT_b hp
    rw [hq] at hs
    have e := m_sign (Θ := Θ) (ω := ω) (n := n) (b := b) h (c := 43) (by omega) hp
    have e : F_X11_sign Θ (gb Θ + 218) 43 (laz Θ (mT S p b) ω) n = _ := e
    rw [hq] at e
    unfold L_X11_readSum_9 B_X11_readSum_9 smT
    rw [d218, e, kI_v]
    cases sg : isSg x q1 43 with
    | false =>
      rw [if_pos (show b01 false = 0 from rfl), if_neg (show ¬ false = true by decide), if_neg (show ¬ false = true by decide)]
      exact RPo.t rfl hs.2 hQ hw (by rw [← hq, skT_sk]) (by show some (A ++ []) = _; rw [List.append_nil])
    | true =>
      have hg := sg_q sg
      have hs2 := skT_b (x := x) (p := q1 + 1) (by omega)
      rw [if_neg (show ¬ b01 true = 0 by decide), if_pos rfl, if_pos rfl, d218]
      obtain ⟨S1, p1, b1, e1, g1, g2, g3, g4⟩ := m_lpart (Θ := Θ) (ω := ω) (n := n) (b := q1) (q := skT x (q1 + 1)) h (show q1 + 1 ≤ x.1 by omega) rfl (show zF S 218 16 = nI i by rw [hw.1, hi]) (by omega)
      rcases ha : ptR x (skT x (q1 + 1)) with _ | a
      · rw [ha] at e1 g3
        rw [e1, kI_v, if_pos (show b01 (Option.map (fun a => [pcM a]) (none : Option PT)).isSome = 0 from rfl), smP_N ha]
        exact RPo.f rfl g1 (hQ.trans g2) rfl (g3 rfl)
      · obtain ⟨y1, y2, y3⟩ := pt_g hs2.2 ha
        have ht := tkE_b hs2.2
        have hs3 := skT_b ht.2
        rw [ha] at e1 g4
        obtain ⟨g5, g6⟩ := g4 _ rfl
        have g5 : skT x p1 = skT x (tkE x (skT x (q1 + 1))) := g5
        have g6' : RWl S S1 (i0 + A.length) [pcM a] := by rw [← hi]; exact g6
        obtain ⟨S2, e2, q2, w2⟩ := m_emits (Θ := Θ) (ω := ω) (n := n) (p := p1) (b := b1) (u := 9) (v := 0) g6.1 (by show i + 1 ≤ 399; omega)
        have w2 : RWl S1 S2 (i0 + (A ++ [pcM a]).length) [(9, 0)] := by rw [List.length_append, ← Nat.add_assoc, ← hi]; exact w2
        rw [e1, kI_v, if_neg (show ¬ b01 (Option.map (fun a => [pcM a]) (some a)).isSome = 0 from (by show ¬ b01 true = 0; decide)), d218, e2, kV_v, smP_T ha]
        have := ih p1 b1 (skT x (tkE x (skT x (q1 + 1)))) (i + 2) f S2 (A ++ [pcM a] ++ [(9, 0)]) (by omega) (by omega) ((h.rq g2).rq q2) g1 g5 ((hQ.trans g2).trans q2) ((hw.trans g6').trans w2) (by rw [List.length_append, List.length_append]; show i + 2 = i0 + (A.length + 1 + 1); omega) (by omega)
        rcases hm : smT x k (skT x (tkE x (skT x (q1 + 1)))) with ⟨r', _ | L⟩
        · rw [hm] at this; exact this
        · rw [hm] at this
          have el : A ++ [pcM a] ++ [(9, 0)] ++ rsM L = A ++ rsM (a :: L) := by rw [List.append_assoc, List.append_assoc]; rfl
          show RPo Θ S0 ω n x i0 r' (some (A ++ rsM (a :: L))) _
          rw [← el]; exact this
theorem m_sum (h : MTx S x) {p b q i : Nat} (hp : p ≤ x.1) (hq : skT x p = q) (hi : zF S 218 16 = nI i) (h4 : i + (x.1 - q) ≤ 393) : RPo Θ S ω n x i (smP x 401 q).1 ((smP x 401 q).2.map suM) (F_X11_readSum Θ (gb Θ + 218) (laz Θ (mT S p b) ω) n) := by
  have hs := skT_b hp
  rw [hq] at hs
  have hx := h.2.1
  unfold F_X11_readSum
  rw [d218]
  obtain ⟨S1, p1, b1, e1, g1, g2, g3, g4⟩ := m_lpart (Θ := Θ) (ω := ω) (n := n) (b := b) h hp hq hi (by omega)
  rcases ha : ptR x q with _ | a
  · rw [ha] at e1 g3
    rw [e1, kI_v, if_pos (show b01 (Option.map (fun a => [pcM a]) (none : Option PT)).isSome = 0 from rfl), smP_N ha]
    exact RPo.f rfl g1 g2 rfl (g3 rfl)
  · obtain ⟨y1, y2, y3⟩ := pt_g hs.2 ha
    have ht := tkE_b hs.2
    have hs3 := skT_b ht.2
    rw [ha] at e1 g4
    obtain ⟨g5, g6⟩ := g4 _ rfl
    have g5 : skT x p1 = skT x (tkE x q) := g5
    rw [e1, kI_v, if_neg (show ¬ b01 (Option.map (fun a => [pcM a]) (some a)).isSome = 0 from (by show ¬ b01 true = 0; decide)), smP_T (k := 400) ha]
    have := m_sumL (Θ := Θ) (ω := ω) (n := n) 400 p1 b1 (skT x (tkE x q)) (i + 1) 5000 S1 [pcM a] (by omega) (by omega) (h.rq g2) g1 g5 g2 g6 rfl (by omega)
    rcases hm : smT x 400 (skT x (tkE x q)) with ⟨r', _ | L⟩
    · rw [hm] at this; exact this
    · rw [hm] at this; exact this
end RL
