/-! conditions, read by the class -/
def XQl (S S' : PZ) : Prop := (∀ k j, ¬ (k = 1 ∧ 1 ≤ j ∧ j ≤ 3) → ¬ (k = 197 ∧ j = 2) → zF S' k j = zF S k j) ∧ (∀ k, k ≠ 201 → zA S' k = zA S k) ∧ (∀ k j, zR S' k j = zR S k j) ∧ (∀ k, k ≠ 1 → zL S' k = zL S k)
theorem lsA_app {g : Nat → Int32} {s : Nat} {A B : List Int32} (h1 : lsA g s A) (h2 : lsA g (s + A.length) B) : lsA g s (A ++ B) := by
  intro k hk
  rw [List.length_append] at hk
  by_cases z : k < A.length
  · rw [List.getD_eq_getElem?_getD, List.getElem?_append_left z, ← List.getD_eq_getElem?_getD]; exact h1 k z
  · have := h2 (k - A.length) (by omega)
    rw [List.getD_eq_getElem?_getD, List.getElem?_append_right (by omega), ← List.getD_eq_getElem?_getD, ← this]
    congr 1; omega
theorem lsA_cg {g g' : Nat → Int32} {s e : Nat} {A : List Int32} (h : lsA g s A) (he : s + A.length ≤ e) (hg : ∀ k, s ≤ k → k < e → g' k = g k) : lsA g' s A := fun k hk => by rw [hg _ (by omega) (by omega)]; exact h k hk
section XC
variable {Θ : GP} {S S' S'' : PZ} {ω : OW} {n : Nat} {x : TX}
theorem XQl.rf (S : PZ) : XQl S S := ⟨fun _ _ _ _ => rfl, fun _ _ => rfl, fun _ _ => rfl, fun _ _ => rfl⟩
theorem XQl.trans (h : XQl S S') (g : XQl S' S'') : XQl S S'' := ⟨fun k j q z => (g.1 k j q z).trans (h.1 k j q z), fun k z => (g.2.1 k z).trans (h.2.1 k z), fun k j => (g.2.2.1 k j).trans (h.2.2.1 k j), fun k q => (g.2.2.2 k q).trans (h.2.2.2 k q)⟩
theorem XTk.q (h : XTk S S') : XQl S S' := ⟨fun k j z _ => h.1 k j z, fun k _ => h.2.1 k, h.2.2.1, h.2.2.2⟩
theorem XQl.nA (h : XQl S S') {f : Nat → Int32} : XQl S (uA S' 201 f) := ⟨h.1, fun k z => by rw [zA_ne _ _ z, h.2.1 k z], h.2.2.1, h.2.2.2⟩
theorem XQl.nF (h : XQl S S') {v : Int32} : XQl S (uF S' 197 2 v) := ⟨fun k j z y => by rw [zF_ne _ _ y, h.1 k j z y], h.2.1, h.2.2.1, h.2.2.2⟩
theorem TC.xq (h : TC S x) (t : XQl S S') : TC S' x := ⟨by rw [t.1 1 0 (by omega) (by omega)]; exact h.1, h.2.1, by rw [t.2.1 2 (by omega)]; exact h.2.2⟩
theorem TK.nA {q : Nat} (t : TK S x q) {k : Nat} {f : Nat → Int32} : TK (uA S k f) x q := t
theorem TK.nF {q : Nat} (t : TK S x q) {v : Int32} : TK (uF S 197 2 v) x q := ⟨t.1, by rw [zF_ne _ _ (by omega)]; exact t.2.1, by rw [zF_ne _ _ (by omega)]; exact t.2.2.1, by rw [zF_ne _ _ (by omega)]; exact t.2.2.2.1, t.2.2.2.2⟩
/-- the code from s on is L, what lies before is kept -/
def XWl (S S' : PZ) (s : Nat) (L : List Int32) : Prop := zF S' 197 2 = nI (s + L.length) ∧ lsA (zA S' 201) s L ∧ ∀ k, k < s → zA S' 201 k = zA S 201 k
theorem XWl.trans {s : Nat} {A B : List Int32} (h1 : XWl S S' s A) (h2 : XWl S' S'' (s + A.length) B) : XWl S S'' s (A ++ B) := by
  refine ⟨by rw [h2.1, List.length_append, Nat.add_assoc], lsA_app (lsA_cg h1.2.1 (Nat.le_refl _) (fun k _ hk => h2.2.2 k hk)) h2.2.1, fun k hk => by rw [h2.2.2 k (by omega), h1.2.2 k hk]⟩
theorem XWl.tk {s : Nat} {A : List Int32} (h : XWl S S' s A) (t : XTk S' S'') : XWl S S'' s A := ⟨by rw [t.1 197 2 (by omega)]; exact h.1, by rw [t.2.1]; exact h.2.1, by rw [t.2.1]; exact h.2.2⟩
theorem XWl.kt {s : Nat} {A : List Int32} (t : XTk S S') (h : XWl S' S'' s A) : XWl S S'' s A := ⟨h.1, h.2.1, fun k hk => by rw [h.2.2 k hk, t.2.1]⟩
theorem x_write {s : Nat} {v : Int32} (hs : zF S 197 2 = nI s) (h : s < 408) : F_X3_write Θ (gb Θ + 197) v (laz Θ S ω) n = some (.inl (some (.int 1), laz Θ (uF (uA S 201 (upd (zA S 201) s v)) 197 2 (nI (s + 1))) ω, n)) ∧ XWl S (uF (uA S 201 (upd (zA S 201) s v)) 197 2 (nI (s + 1))) s [v] := by
  constructor
  · unfold F_X3_write
    rw [a197_2, hs, if_pos (show nI s < 408 from nI_lt (b := 408) h (by omega)), a197_6, a197_2, hs, s_201 h, a197_2, zF_uA, hs, nI_1, b197_2]
  · refine ⟨zF_eq _ _ _ _, fun k hk => ?_, fun k hk => ?_⟩
    · have hk : k < 1 := hk
      rw [show k = 0 by omega]
      show upd (zA S 201) s v (s + 0) = v
      rw [Nat.add_zero s, upd_same]
    · show upd (zA S 201) s v k = _
      rw [upd_ne _ _ (by omega)]
theorem nI_p2 (s : Nat) : nI s + 2 = nI (s + 2) := nI_add s 2
/-- one side of a comparison, partly read -/
def CMs (S S' : PZ) (s z : Nat) (ct : Int32) (nf : Nat) (r : Bool) (L : List PT) : Prop := zF S' 197 2 = nI (z + nfL L) ∧ lsA (zA S' 201) z (fcX r L) ∧ zA S' 201 (s + 1) = ct + ctX r L ∧ zA S' 201 (s + 2) = nI (nf + nfL L) ∧ ∀ k, k < z → k ≠ s + 1 → k ≠ s + 2 → zA S' 201 k = zA S 201 k
theorem CMs.cons {s z nf : Nat} {ct : Int32} {r : Bool} {a : PT} {L : List PT} (hz : s + 3 ≤ z) (h1 : CMs S S' s z ct nf r [a]) (h2 : CMs S' S'' s (z + nfL [a]) (ct + ctX r [a]) (nf + nfL [a]) r L) : CMs S S'' s z ct nf r (a :: L) := by
  obtain ⟨a1, a2, a3, a4, a5⟩ := h1
  obtain ⟨b1, b2, b3, b4, b5⟩ := h2
  have e1 : nfL (a :: L) = nfL [a] + nfL L := by show (if a.1 = true then 1 else 0) + nfL L = (if a.1 = true then 1 else 0) + 0 + nfL L; omega
  have e2 : fcX r (a :: L) = fcX r [a] ++ fcX r L := by
    show (if a.1 = true then (if r = true then nI a.2 ^^^ -1 else nI a.2) :: fcX r L else fcX r L) = (if a.1 = true then (if r = true then nI a.2 ^^^ -1 else nI a.2) :: [] else []) ++ fcX r L
    split <;> rfl
  have e3 : ctX r (a :: L) = ctX r [a] + ctX r L := by
    show _ + ctX r L = (_ + 0) + ctX r L
    rw [Int32.add_zero]
  refine ⟨by rw [b1, e1, Nat.add_assoc], ?_, by rw [b3, e3, Int32.add_assoc], by rw [b4, e1, Nat.add_assoc], fun k hk h1 h2 => by rw [b5 k (by omega) h1 h2, a5 k hk h1 h2]⟩
  rw [e2]
  refine lsA_app (lsA_cg a2 (Nat.le_refl _) (fun k hk hk2 => b5 k (by rw [fcX_len] at hk2; exact hk2) (by omega) (by omega))) ?_
  rw [fcX_len]
  exact b2
/-- the fact that a word names -/
def fcI (o : Option Nat) : Int32 := match o with
  | none => -1
  | some j => nI j
theorem x_lpart (h : TC S x) {q s z nf : Nat} {ct : Int32} {r : Bool} (t : TK S x q) (hsz : zF S 197 2 = nI z) (hz : s + 3 ≤ z) (hz4 : z < 408) (h1 : zA S 201 (s + 1) = ct) (h2 : zA S 201 (s + 2) = nI nf) : ∃ S', XQl S S' ∧ ((ptR x q = none ∧ F_X3_readPart Θ (gb Θ + 197) (nI s) (b01 r) (laz Θ S ω) n = some (.inl (some (.int 0), laz Θ S' ω, n)) ∧ TK S' x q) ∨ ∃ a, ptR x q = some a ∧ F_X3_readPart Θ (gb Θ + 197) (nI s) (b01 r) (laz Θ S ω) n = some (.inl (some (.int 1), laz Θ S' ω, n)) ∧ TK S' x (skT x (tkE x q)) ∧ CMs S S' s z ct nf r [a]) := by
  by_cases y : nmR x q 0 999 = -1
  · have chain : F_X3_readPart Θ (gb Θ + 197) (nI s) (b01 r) (laz Θ S ω) n = J_X3_readPart_150 Θ (gb Θ + 197) (nI s) (b01 r) (fcI (fcR x q)) (laz Θ S ω) n := by
      unfold F_X3_readPart fcR
      rw [a197_0, d1, x_number h t, kI_v, if_pos y, a197_0, d1, x_isWord h t (s := 6) (by decide) (c := 1886547824) (by decide), kI_v]
      cases h6 : isWd x q 6 with
      | true => rw [if_neg (show ¬ b01 true = 0 by decide), if_pos rfl]; rfl
      | false =>
        rw [if_pos (show b01 false = 0 from rfl), if_neg (show ¬ false = true by decide), a197_0, d1, x_isWord h t (s := 11) (by decide) (c := 1936486260) (by decide), kI_v]
        cases h11 : isWd x q 11 with
        | true => rw [if_neg (show ¬ b01 true = 0 by decide), if_pos rfl]; rfl
        | false =>
          rw [if_pos (show b01 false = 0 from rfl), if_neg (show ¬ false = true by decide), a197_0, d1, x_isWord h t (s := 0) (by decide) (c := 1785033323) (by decide), kI_v]
          cases h0 : isWd x q 0 with
          | true => rw [if_neg (show ¬ b01 true = 0 by decide), if_pos rfl]; rfl
          | false =>
            rw [if_pos (show b01 false = 0 from rfl), if_neg (show ¬ false = true by decide), a197_0, d1, x_isWord h t (s := 2) (by decide) (c := 2003792494) (by decide), kI_v]
            cases h2' : isWd x q 2 with
            | true => rw [if_neg (show ¬ b01 true = 0 by decide), if_pos rfl]; rfl
            | false =>
              rw [if_pos (show b01 false = 0 from rfl), if_neg (show ¬ false = true by decide), a197_0, d1, x_isWord h t (s := 12) (by decide) (c := 499917943653) (by decide), kI_v]
              cases h12 : isWd x q 12 with
              | true => rw [if_neg (show ¬ b01 true = 0 by decide), if_pos rfl]; rfl
              | false =>
                rw [if_pos (show b01 false = 0 from rfl), if_neg (show ¬ false = true by decide), a197_0, d1, x_isWord h t (s := 3) (by decide) (c := 474148402789) (by decide), kI_v]
                cases h3 : isWd x q 3 with
                | true => rw [if_neg (show ¬ b01 true = 0 by decide), if_pos rfl]; rfl
                | false => rw [if_pos (show b01 false = 0 from rfl), if_neg (show ¬ false = true by decide)]; rfl
    rw [chain]
    rcases hf : fcR x q with _ | j
    · refine ⟨S, XQl.rf S, Or.inl ⟨by unfold ptR; rw [if_pos y, hf], ?_, t⟩⟩
      unfold J_X3_readPart_150
      rw [if_pos (show fcI none = -1 from rfl)]
      rfl
    · have hj := (fc_g hf).1
      have ep : ptR x q = some (true, j) := by unfold ptR; rw [if_pos y, hf]
      obtain ⟨w1, w2, w3, w4⟩ := x_write (Θ := Θ) (ω := ω) (n := n) (v := if r = true then nI j ^^^ -1 else nI j) hsz hz4
      have hn2 : zA (uF (uA S 201 (upd (zA S 201) z (if r = true then nI j ^^^ -1 else nI j))) 197 2 (nI (z + 1))) 201 (s + 2) = nI nf := by rw [w4 _ (by omega), h2]
      have t1 : TK (uA (uF (uA S 201 (upd (zA S 201) z (if r = true then nI j ^^^ -1 else nI j))) 197 2 (nI (z + 1))) 201 (upd (zA (uF (uA S 201 (upd (zA S 201) z (if r = true then nI j ^^^ -1 else nI j))) 197 2 (nI (z + 1))) 201) (s + 2) (nI (nf + 1)))) x q := t.nA.nF.nA
      have q1 : XQl S (uA (uF (uA S 201 (upd (zA S 201) z (if r = true then nI j ^^^ -1 else nI j))) 197 2 (nI (z + 1))) 201 (upd (zA (uF (uA S 201 (upd (zA S 201) z (if r = true then nI j ^^^ -1 else nI j))) 197 2 (nI (z + 1))) 201) (s + 2) (nI (nf + 1)))) := (XQl.rf S).nA.nF.nA
      obtain ⟨S2, e2, x2, t2⟩ := x_adv (Θ := Θ) (ω := ω) (n := n) (h.xq q1) t1
      refine ⟨S2, q1.trans x2.q, Or.inr ⟨(true, j), ep, ?_, t2, ?_⟩⟩
      · unfold J_X3_readPart_150 J_X3_readPart_172
        rw [show fcI (some j) = nI j from rfl, if_neg (show ¬ nI j = -1 by rw [q_m1 (by omega)]; exact id)]
        have main : ∀ u : Int32, u = (if r = true then nI j ^^^ -1 else nI j) → cO (laz Θ S ω) (gb Θ + 197) 3 (kI (F_X3_write Θ (gb Θ + 197) u (laz Θ S ω) n) (fun x1 ω n => if x1 = 0 then (J_X3_readPart_178 Θ ω n) else (rA ω (gb Θ + 197) 3 6 (fun a3 => lI ω (gI Θ) a3 (nI s + 2) (fun x4 => sI ω (gI Θ) a3 (nI s + 2) (x4 + 1) (fun ω => rA ω (gb Θ + 197) 3 0 (fun a5 => cO ω a5 8 (kV (F_X8_advance Θ a5 ω n) (fun ω n => some (.inl (some (.int 1), ω, n))))))))))) = some (.inl (some (.int 1), laz Θ S2 ω, n)) := by
          intro u hu
          subst hu
          rw [d197, w1, kI_v, if_neg (show ¬ (1 : Int32) = 0 by decide), a197_6, nI_p2, l_201 (by omega), hn2, nI_1, s_201 (by omega), a197_0, d1, e2, kV_v]
        cases r with
        | true => rw [if_neg (show ¬ b01 true = 0 by decide)]; exact main _ rfl
        | false => rw [if_pos (show b01 false = 0 from rfl)]; exact main _ rfl
      · have hc : ∀ k, zA S2 201 k = upd (upd (zA S 201) z (if r = true then nI j ^^^ -1 else nI j)) (s + 2) (nI (nf + 1)) k := fun k => by rw [x2.2.1]; rfl
        refine ⟨?_, fun k hk => ?_, ?_, ?_, fun k hk k1 k2 => ?_⟩
        · rw [x2.1 197 2 (by omega), zF_uA, zF_eq]; rfl
        · have hk : k < 1 := hk
          rw [show k = 0 by omega, hc, upd_ne _ _ (by omega)]
          show upd _ _ _ (z + 0) = _
          rw [Nat.add_zero z, upd_same]
          rfl
        · rw [hc, upd_ne _ _ (by omega), upd_ne _ _ (by omega), h1]
          show ct = ct + (0 + 0)
          rw [Int32.add_zero, Int32.add_zero]
        · rw [hc, upd_same]; rfl
        · rw [hc, upd_ne _ _ k2, upd_ne _ _ (by omega)]
  · obtain ⟨v, v1, v2, _, _, v5⟩ := nm_rg t.1 y
    have ep : ptR x q = some (false, v) := by unfold ptR; rw [if_neg y, v2, nI_clamp (by omega)]
    have t1 : TK (uA S 201 (upd (zA S 201) (s + 1) (ct + (if r = true then - nI v else nI v)))) x q := t.nA
    have q1 : XQl S (uA S 201 (upd (zA S 201) (s + 1) (ct + (if r = true then - nI v else nI v)))) := (XQl.rf S).nA
    obtain ⟨S2, e2, x2, t2⟩ := x_adv (Θ := Θ) (ω := ω) (n := n) (h.xq q1) t1
    refine ⟨S2, q1.trans x2.q, Or.inr ⟨(false, v), ep, ?_, t2, ?_⟩⟩
    · unfold F_X3_readPart J_X3_readPart_36
      rw [a197_0, d1, x_number h t, kI_v, if_neg y, v2, a197_6, nI_1, l_201 (by omega), h1]
      cases r with
      | true =>
        rw [if_pos rfl] at e2
        rw [if_neg (show ¬ b01 true = 0 by decide), s_201 (by omega), a197_0, d1, e2, kV_v]
      | false =>
        rw [if_neg (show ¬ false = true by decide)] at e2
        rw [if_pos (show b01 false = 0 from rfl), s_201 (by omega), a197_0, d1, e2, kV_v]
    · have hc : ∀ k, zA S2 201 k = upd (zA S 201) (s + 1) (ct + (if r = true then - nI v else nI v)) k := fun k => by rw [x2.2.1]; rfl
      refine ⟨?_, fun k hk => absurd hk (Nat.not_lt_zero _), ?_, ?_, fun k hk k1 k2 => ?_⟩
      · rw [x2.1 197 2 (by omega)]; exact hsz
      · rw [hc, upd_same]
        show _ = ct + ((if r = true then - nI v else nI v) + 0)
        rw [Int32.add_zero]
      · rw [hc, upd_ne _ _ (by omega), h2]; rfl
      · rw [hc, upd_ne _ _ k1]
end XC
