/-! a comparison, read by the class -/
theorem lsA_cons {g : Nat → Int32} {s : Nat} {a : Int32} {L : List Int32} (h1 : g s = a) (h2 : lsA g (s + 1) L) : lsA g s (a :: L) := by
  intro k hk
  cases k with
  | zero => exact h1
  | succ k =>
    have := h2 k (by rw [List.length_cons] at hk; omega)
    rw [show s + (k + 1) = s + 1 + k by omega, this]; rfl
theorem sg_tkE {x : TX} {q c : Nat} (hc : c < 48 ∨ (57 < c ∧ c < 97)) (z : isSg x q c = true) : tkE x q = q + 1 := by
  have hz := of_decide_eq_true z
  unfold tkE
  rw [if_neg (by omega), if_neg (by rw [show ltP x q = false from decide_eq_false (fun u => by omega)]; decide), if_neg (by rw [show dgP x q = false from decide_eq_false (fun u => by omega)]; decide)]
def cmK (Θ : GP) (K : Nat → Int32 → Int32 → Int32 → OW → Nat → RO) (l0 : Nat) (l1 : Int32) (l2 : Int32) (l3 : Int32) (ω : OW) (n : Nat) : RO := if l2 = 0 then (rA ω l0 3 0 (fun a10 => cO ω a10 8 (kI (F_X8_isSign Θ a10 62 ω n) (fun x11 ω n => if x11 = 0 then (rA ω l0 3 0 (fun a13 => cO ω a13 8 (kI (F_X8_isSign Θ a13 60 ω n) (fun x14 ω n => if x14 = 0 then (some (.inl (some (.int 0), ω, n))) else (J_X3_readComparison_110 Θ K l0 l1 l3 ω n))))) else (rA ω l0 3 6 (fun a16 => sI ω (gI Θ) a16 l1 5 (fun ω => J_X3_readComparison_110 Θ K l0 l1 l3 ω n))))))) else (some (.inl (some (.int 1), ω, n)))
section XM
variable {Θ : GP} {ω : OW} {n : Nat} {x : TX}
theorem x_cmL {s : Nat} {r : Bool} : ∀ (k q i f z nf : Nat) (ct : Int32) (S : PZ), x.1 < q + k → i + (x.1 - q) ≤ 400 → 401 < f + i → TC S x → TK S x q → zF S 197 2 = nI z → s + 3 ≤ z → z + (x.1 - q) ≤ 405 → zA S 201 (s + 1) = ct → zA S 201 (s + 2) = nI nf →
    ((smP x k q).2 = none ∧ ∃ S', L_X3_readComparison_35 Θ f (gb Θ + 197) (nI s) (b01 r) (nI i) (laz Θ S ω) n = some (.inl (some (.int 0), laz Θ S' ω, n)) ∧ XQl S S' ∧ TK S' x (smP x k q).1) ∨
    ∃ L S' f' i', (smP x k q).2 = some L ∧ L_X3_readComparison_35 Θ f (gb Θ + 197) (nI s) (b01 r) (nI i) (laz Θ S ω) n = cmK Θ (L_X3_readComparison_35 Θ f') (gb Θ + 197) (nI s) (b01 r) (nI i') (laz Θ S' ω) n ∧ XQl S S' ∧ TK S' x (smP x k q).1 ∧ CMs S S' s z ct nf r L ∧ i' + (x.1 - (smP x k q).1) ≤ 399 ∧ 400 < f' + i' ∧ (z + nfL L) + (x.1 - (smP x k q).1) ≤ 405 := by
  intro k
  induction k with
  | zero => intro q i f z nf ct S h0 _ _ _ t; have := t.1; omega
  | succ k ih =>
    intro q i f z nf ct S h0 h1 h2 h t hsz hz hz4 hc1 hc2
    obtain ⟨f, rfl⟩ : ∃ g, f = g + 1 := ⟨f - 1, by omega⟩
    have hq := t.1
    have ht := tkE_b hq
    have hs := skT_b ht.2
    have eN : ptR x q = none → smP x (k + 1) q = (q, none) := fun e => by
      show bnd (q, ptR x q) _ = _
      rw [e]; rfl
    show (_ ∧ ∃ S', B_X3_readComparison_35 Θ (L_X3_readComparison_35 Θ f) (gb Θ + 197) (nI s) (b01 r) (nI i) (laz Θ S ω) n = _ ∧ _) ∨ ∃ L S' f' i', _ ∧ B_X3_readComparison_35 Θ (L_X3_readComparison_35 Θ f) (gb Θ + 197) (nI s) (b01 r) (nI i) (laz Θ S ω) n = _ ∧ _
    unfold B_X3_readComparison_35 J_X3_readComparison_119
    by_cases z4 : 400 ≤ i
    · have en : ptR x q = none := by
        rcases hp : ptR x q with _ | a
        · rfl
        · have := (pt_g hq hp).2.2; omega
      rw [if_pos (show (400 : Int32) ≤ nI i from nI_le (a := 400) z4 (by omega)), eN en]
      exact Or.inl ⟨rfl, S, rfl, XQl.rf S, t⟩
    · rw [if_neg (show ¬ (400 : Int32) ≤ nI i from nI_ge (b := 400) (by omega) (by omega)), d197]
      obtain ⟨S1, q1, o⟩ := x_lpart (Θ := Θ) (ω := ω) (n := n) (r := r) h t hsz hz (by omega) hc1 hc2
      rcases o with ⟨en, e1, t1⟩ | ⟨a, ea, e1, t1, cm⟩
      · rw [e1, kI_v, if_pos rfl, eN en]
        exact Or.inl ⟨rfl, S1, rfl, q1, t1⟩
      · obtain ⟨g1, g2, g3⟩ := pt_g hq ea
        have eS : smP x (k + 1) q = (if isSg x (skT x (tkE x q)) 43 = true then bnd (smP x k (skT x (skT x (tkE x q) + 1))) (fun r L => (r, some (a :: L))) else (skT x (tkE x q), some [a])) := by
          show bnd (q, ptR x q) _ = _
          rw [ea]; rfl
        have enf : nfL [a] = (if a.1 = true then 1 else 0) := by show (if a.1 = true then 1 else 0) + 0 = _; omega
        obtain ⟨S2, e2, x2, t2⟩ := x_takeSign (Θ := Θ) (ω := ω) (n := n) (h.xq q1) t1 (c := 43) (by omega)
        have e2 : F_X8_takeSign Θ (gb Θ + 1) 43 (laz Θ S1 ω) n = _ := e2
        have cm2 : CMs S S2 s z ct nf r [a] := by
          obtain ⟨a1, a2, a3, a4, a5⟩ := cm
          exact ⟨by rw [x2.1 197 2 (by omega)]; exact a1, by rw [x2.2.1]; exact a2, by rw [x2.2.1]; exact a3, by rw [x2.2.1]; exact a4, by rw [x2.2.1]; exact a5⟩
        rw [e1, kI_v, if_neg (show ¬ (1 : Int32) = 0 by decide), a197_0, d1, e2, kI_v, eS]
        cases sg : isSg x (skT x (tkE x q)) 43 with
        | false =>
          rw [sg, if_neg (show ¬ false = true by decide)] at t2
          rw [if_pos (show b01 false = 0 from rfl), if_neg (show ¬ false = true by decide)]
          exact Or.inr ⟨[a], S2, f, i, rfl, rfl, q1.trans x2.q, t2, cm2, by show i + (x.1 - skT x (tkE x q)) ≤ 399; omega, by omega, by show z + nfL [a] + (x.1 - skT x (tkE x q)) ≤ 405; omega⟩
        | true =>
          rw [sg, if_pos rfl] at t2
          have hg := sg_q sg
          have hs2 := skT_b (x := x) (p := skT x (tkE x q) + 1) (by omega)
          rw [if_neg (show ¬ b01 true = 0 by decide), if_pos rfl, nI_1]
          rcases ih (skT x (skT x (tkE x q) + 1)) (i + 1) f (z + nfL [a]) (nf + nfL [a]) (ct + ctX r [a]) S2 (by omega) (by omega) (by omega) ((h.xq q1).xtk x2) t2 cm2.1 (by omega) (by omega) cm2.2.2.1 cm2.2.2.2.1 with ⟨i1, S3, i2, i3, i4⟩ | ⟨L, S3, f', i', i1, i2, i3, i4, i5, i6, i7, i8⟩
          · refine Or.inl ⟨?_, S3, i2, (q1.trans x2.q).trans i3, ?_⟩
            · rcases hm : smP x k (skT x (skT x (tkE x q) + 1)) with ⟨r', _ | L⟩
              · rfl
              · rw [hm] at i1; cases i1
            · rcases hm : smP x k (skT x (skT x (tkE x q) + 1)) with ⟨r', _ | L⟩
              · rw [hm] at i4; exact i4
              · rw [hm] at i1; cases i1
          · rcases hm : smP x k (skT x (skT x (tkE x q) + 1)) with ⟨r', _ | L'⟩
            · rw [hm] at i1; cases i1
            · rw [hm] at i1 i4 i6 i8
              cases i1
              have e3 : nfL (a :: L) = nfL [a] + nfL L := by show (if a.1 = true then 1 else 0) + nfL L = (if a.1 = true then 1 else 0) + 0 + nfL L; omega
              exact Or.inr ⟨a :: L, S3, f', i', rfl, i2, (q1.trans x2.q).trans i3, i4, CMs.cons hz cm2 i5, i6, i7, by rw [e3, ← Nat.add_assoc]; exact i8⟩
end XM
