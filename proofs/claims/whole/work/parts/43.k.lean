/-! a sum, read by the reference -/
theorem mT_u (S : PZ) (p b : Nat) {k j : Nat} (v : Int32) (h : ¬ (k = 218 ∧ (j = 10 ∨ j = 12))) : uF (mT S p b) k j v = mT (uF S k j v) p b := by
  unfold mT
  rw [uF_comm _ _ _ (show ¬ (218 = k ∧ 12 = j) by omega), uF_comm _ _ _ (show ¬ (218 = k ∧ 10 = j) by omega)]
def lsD (g : Nat → Int32) (i : Nat) (L : List (Int32 × Int32)) : Prop := ∀ k, k < L.length → g (2 * (i + k) + 1203) = (L.getD k (0, 0)).1 ∧ g (2 * (i + k) + 1204) = (L.getD k (0, 0)).2
theorem lsD_app {g : Nat → Int32} {s : Nat} {A B : List (Int32 × Int32)} (h1 : lsD g s A) (h2 : lsD g (s + A.length) B) : lsD g s (A ++ B) := by
  intro k hk
  rw [List.length_append] at hk
  by_cases z : k < A.length
  · rw [List.getD_eq_getElem?_getD, List.getElem?_append_left z, ← List.getD_eq_getElem?_getD]; exact h1 k z
  · have := h2 (k - A.length) (by omega)
    rw [show s + A.length + (k - A.length) = s + k by omega] at this
    rw [List.getD_eq_getElem?_getD, List.getElem?_append_right (by omega), ← List.getD_eq_getElem?_getD]
    exact this
def RQl (S S' : PZ) : Prop := (∀ k j, ¬ (k = 218 ∧ (j = 13 ∨ j = 16)) → zF S' k j = zF S k j) ∧ (∀ k, k ≠ 219 → zA S' k = zA S k) ∧ (∀ k, k < 1203 → zA S' 219 k = zA S 219 k) ∧ (∀ k j, zR S' k j = zR S k j) ∧ (∀ k, zL S' k = zL S k)
def RWl (S S' : PZ) (i : Nat) (L : List (Int32 × Int32)) : Prop := zF S' 218 16 = nI (i + L.length) ∧ zF S' 218 13 = zF S 218 13 ∧ lsD (zA S' 219) i L ∧ ∀ k, k < 2 * i + 1203 → zA S' 219 k = zA S 219 k
section RK
variable {Θ : GP} {S S' S'' : PZ} {ω : OW} {n : Nat} {x : TX}
theorem RQl.rf (S : PZ) : RQl S S := ⟨fun _ _ _ => rfl, fun _ _ => rfl, fun _ _ => rfl, fun _ _ => rfl, fun _ => rfl⟩
theorem RQl.trans (h : RQl S S') (g : RQl S' S'') : RQl S S'' := ⟨fun k j q => (g.1 k j q).trans (h.1 k j q), fun k q => (g.2.1 k q).trans (h.2.1 k q), fun k q => (g.2.2.1 k q).trans (h.2.2.1 k q), fun k j => (g.2.2.2.1 k j).trans (h.2.2.2.1 k j), fun k => (g.2.2.2.2 k).trans (h.2.2.2.2 k)⟩
theorem MTx.rq (h : MTx S x) (g : RQl S S') : MTx S' x := ⟨by rw [g.1 218 11 (by omega)]; exact h.1, h.2.1, by rw [g.2.1 224 (by omega)]; exact h.2.2⟩
theorem RWl.trans {i : Nat} {A B : List (Int32 × Int32)} (h1 : RWl S S' i A) (h2 : RWl S' S'' (i + A.length) B) : RWl S S'' i (A ++ B) := by
  refine ⟨by rw [h2.1, List.length_append, Nat.add_assoc], h2.2.1.trans h1.2.1, lsD_app (fun k hk => ?_) h2.2.2.1, fun k hk => by rw [h2.2.2.2 k (by omega), h1.2.2.2 k hk]⟩
  rw [h2.2.2.2 _ (by omega), h2.2.2.2 _ (by omega)]
  exact h1.2.2.1 k hk
theorem RWl.nil {i : Nat} (h : zF S 218 16 = nI i) : RWl S S i [] := ⟨h, rfl, fun k hk => absurd hk (Nat.not_lt_zero _), fun _ _ => rfl⟩
theorem ixe0 (i : Nat) : (1203 : Int32) + 2 * nI i = nI (2 * i + 1203) := by
  show nI 1203 + nI 2 * nI i = _
  rw [nI_mul, nI_add, Nat.add_comm]
theorem m_emits {p b i : Nat} {u v : Int32} (hi : zF S 218 16 = nI i) (h : i ≤ 399) : ∃ S', F_X11_emits Θ (gb Θ + 218) u v (laz Θ (mT S p b) ω) n = some (.inl (none, laz Θ (mT S' p b) ω, n)) ∧ RQl S S' ∧ RWl S S' i [(u, v)] := by
  refine ⟨uF (uA S 219 (upd (upd (zA S 219) (2 * i + 1203) u) (2 * i + 1204) v)) 218 16 (nI (i + 1)), ?_, ?_, ?_⟩
  · unfold F_X11_emits
    have e16 : ∀ T : PZ, zF T 218 16 = nI i → zF (mT T p b) 218 16 = nI i := fun T hT => by rw [mT_ne _ _ _ (by omega)]; exact hT
    rw [a218_1, a218_16, e16 S hi, ixe0, s_219 (by omega), a218_1, a218_16, mT_uA, e16 (uA S 219 _) hi, ixe0, nI_1, s_219 (by omega), mT_uA, uA_uA, a218_16, e16 (uA S 219 _) hi, nI_1, b218_16, mT_u _ _ _ _ (by omega)]
    rfl
  · refine ⟨fun k j q => by rw [zF_ne _ _ (by omega)]; rfl, fun k q => zA_ne _ _ q, fun k q => ?_, fun k j => rfl, fun k => rfl⟩
    rw [zA_uF, zA_eq, upd_ne _ _ (by omega), upd_ne _ _ (by omega)]
  · refine ⟨zF_eq _ _ _ _, by rw [zF_ne _ _ (by omega)]; rfl, fun k hk => ?_, fun k hk => ?_⟩
    · have hk : k < 1 := hk
      rw [show k = 0 by omega, Nat.add_zero i, zA_uF, zA_eq, upd_ne _ _ (by omega), upd_same, upd_same]
      exact ⟨rfl, rfl⟩
    · rw [zA_uF, zA_eq, upd_ne _ _ (by omega), upd_ne _ _ (by omega)]
/-- where the reference ends -/
def RPo (Θ : GP) (S : PZ) (ω : OW) (n : Nat) (x : TX) (i : Nat) (r0 : Nat) (o : Option (List (Int32 × Int32))) (r : RO) : Prop := ∃ S' p b, r = some (.inl (some (.int (b01 o.isSome)), laz Θ (mT S' p b) ω, n)) ∧ p ≤ x.1 ∧ RQl S S' ∧ (o = none → b = r0) ∧ ∀ L, o = some L → skT x p = r0 ∧ RWl S S' i L
theorem m_lpart (h : MTx S x) {p b q i : Nat} (hp : p ≤ x.1) (hq : skT x p = q) (hi : zF S 218 16 = nI i) (h4 : i ≤ 399) : RPo Θ S ω n x i (if (ptR x q).isSome = true then skT x (tkE x q) else q) ((ptR x q).map (fun a => [pcM a])) (F_X11_readPart Θ (gb Θ + 218) (laz Θ (mT S p b) ω) n) := by
  have hs := skT_b hp
  rw [hq] at hs
  have hw := weT_b hs.2
  have hsq : skT x q = q := by rw [← hq, skT_sk]
  unfold F_X11_readPart
  rw [d218, m_letters h hp, kV_v, hq, a218_10, mT_p, a218_12, mT_b]
  by_cases lt : ltP x q = true
  · have hlt := of_decide_eq_true lt
    have hwq : weT x q ≠ q := by
      have := (weT_b (x := x) (p := q + 1) (by omega)).1
      rw [weT_s lt]; omega
    have nd : nmR x q 0 999 = -1 := by
      unfold nmR
      rw [if_neg (fun u => by have := (of_decide_eq_true u.1); omega)]
    rw [if_neg (fun u => hwq ((nI_eq (by have := h.2.1; omega) (by have := h.2.1; omega)).mp u))]
    have chain : cO (laz Θ (mT S (weT x q) q) ω) (gb Θ + 218) 11 (kI (F_X11_isWord Θ (gb Θ + 218) 6 (laz Θ (mT S (weT x q) q) ω) n) (fun x8 ω n => if x8 = 0 then (cO ω (gb Θ + 218) 11 (kI (F_X11_isWord Θ (gb Θ + 218) 11 ω n) (fun x10 ω n => if x10 = 0 then (cO ω (gb Θ + 218) 11 (kI (F_X11_isWord Θ (gb Θ + 218) 0 ω n) (fun x12 ω n => if x12 = 0 then (cO ω (gb Θ + 218) 11 (kI (F_X11_isWord Θ (gb Θ + 218) 2 ω n) (fun x14 ω n => if x14 = 0 then (cO ω (gb Θ + 218) 11 (kI (F_X11_isWord Θ (gb Θ + 218) 12 ω n) (fun x16 ω n => if x16 = 0 then (cO ω (gb Θ + 218) 11 (kI (F_X11_isWord Θ (gb Θ + 218) 3 ω n) (fun x18 ω n => if x18 = 0 then (J_X11_readPart_113 Θ (gb Θ + 218) (-1) ω n) else (J_X11_readPart_113 Θ (gb Θ + 218) 5 ω n)))) else (J_X11_readPart_113 Θ (gb Θ + 218) 4 ω n)))) else (J_X11_readPart_113 Θ (gb Θ + 218) 3 ω n)))) else (J_X11_readPart_113 Θ (gb Θ + 218) 2 ω n)))) else (J_X11_readPart_113 Θ (gb Θ + 218) 1 ω n)))) else (J_X11_readPart_113 Θ (gb Θ + 218) 0 ω n))) = J_X11_readPart_113 Θ (gb Θ + 218) (fcI (fcR x q)) (laz Θ (mT S (weT x q) q) ω) n := by
      unfold fcR
      rw [d218, m_isWord h (by decide) hs.2, kI_v]
      cases h6 : isWd x q 6 with
      | true => rw [if_neg (show ¬ b01 true = 0 by decide), if_pos rfl]; rfl
      | false =>
        rw [if_pos (show b01 false = 0 from rfl), if_neg (show ¬ false = true by decide), d218, m_isWord h (by decide) hs.2, kI_v]
        cases h11 : isWd x q 11 with
        | true => rw [if_neg (show ¬ b01 true = 0 by decide), if_pos rfl]; rfl
        | false =>
          rw [if_pos (show b01 false = 0 from rfl), if_neg (show ¬ false = true by decide), d218, m_isWord h (by decide) hs.2, kI_v]
          cases h0 : isWd x q 0 with
          | true => rw [if_neg (show ¬ b01 true = 0 by decide), if_pos rfl]; rfl
          | false =>
            rw [if_pos (show b01 false = 0 from rfl), if_neg (show ¬ false = true by decide), d218, m_isWord h (by decide) hs.2, kI_v]
            cases h2' : isWd x q 2 with
            | true => rw [if_neg (show ¬ b01 true = 0 by decide), if_pos rfl]; rfl
            | false =>
              rw [if_pos (show b01 false = 0 from rfl), if_neg (show ¬ false = true by decide), d218, m_isWord h (by decide) hs.2, kI_v]
              cases h12 : isWd x q 12 with
              | true => rw [if_neg (show ¬ b01 true = 0 by decide), if_pos rfl]; rfl
              | false =>
                rw [if_pos (show b01 false = 0 from rfl), if_neg (show ¬ false = true by decide), d218, m_isWord h (by decide) hs.2, kI_v]
                cases h3 : isWd x q 3 with
                | true => rw [if_neg (show ¬ b01 true = 0 by decide), if_pos rfl]; rfl
                | false => rw [if_pos (show b01 false = 0 from rfl), if_neg (show ¬ false = true by decide)]; rfl
    rw [chain]
    unfold J_X11_readPart_113 J_X11_readPart_120 J_X11_readPart_129
    rcases hf : fcR x q with _ | j
    · have ep : ptR x q = none := by unfold ptR; rw [if_pos nd, hf]
      obtain ⟨S1, e1, q1, _⟩ := m_emits (Θ := Θ) (ω := ω) (n := n) (p := weT x q) (b := q) (u := -1) (v := 0) hi h4
      rw [show fcI none = -1 from rfl, d218, e1, kV_v, if_pos (show (-1 : Int32) < 0 by decide), bz_0, ep]
      exact ⟨S1, weT x q, q, rfl, hw.2, q1, fun _ => rfl, fun L hL => by cases hL⟩
    · have hj := fc_g hf
      have ep : ptR x q = some (true, j) := by unfold ptR; rw [if_pos nd, hf]
      obtain ⟨S1, e1, q1, w1⟩ := m_emits (Θ := Θ) (ω := ω) (n := n) (p := weT x q) (b := q) (u := nI j) (v := 0) hi h4
      rw [show fcI (some j) = nI j from rfl, d218, e1, kV_v, if_neg (nI_pos (by omega)), bz_1, ep]
      exact ⟨S1, weT x q, q, rfl, hw.2, q1, (fun hL => by cases hL), fun L hL => by cases hL; exact ⟨by show skT x (weT x q) = skT x (tkE x q); rw [lt_tkE lt], w1⟩⟩
  · have lt' : ltP x q = false := Bool.eq_false_iff.mpr lt
    rw [weT_n lt', if_pos rfl, d218, m_number h hs.2, kI_v, hsq]
    unfold J_X11_readPart_120 J_X11_readPart_129
    have hd := deT_b hs.2
    by_cases y : nmR x q 0 999 = -1
    · have nf : fcR x q = none := by
        have nw : ∀ s, s < 21 → isWd x q s = false := fun s hs' => by
          cases hh : isWd x q s with
          | false => rfl
          | true =>
            have hz := of_decide_eq_true hh
            have hE := wsE_r s hs'
            rw [weT_n lt'] at hz
            omega
        unfold fcR
        rw [nw 6 (by omega), nw 11 (by omega), nw 0 (by omega), nw 2 (by omega), nw 12 (by omega), nw 3 (by omega)]
        rfl
      have ep : ptR x q = none := by unfold ptR; rw [if_pos y, nf]
      obtain ⟨S1, e1, q1, _⟩ := m_emits (Θ := Θ) (ω := ω) (n := n) (p := deT x q) (b := q) (u := 8) (v := -1) hi h4
      rw [y, d218, e1, kV_v, if_pos (show (-1 : Int32) < 0 by decide), bz_0, ep]
      exact ⟨S1, deT x q, q, rfl, hd.2, q1, fun _ => rfl, fun L hL => by cases hL⟩
    · obtain ⟨v, v1, v2, _, _, v5⟩ := nm_rg hs.2 y
      have ep : ptR x q = some (false, v) := by unfold ptR; rw [if_neg y, v2, nI_clamp (by omega)]
      obtain ⟨S1, e1, q1, w1⟩ := m_emits (Θ := Θ) (ω := ω) (n := n) (p := deT x q) (b := q) (u := 8) (v := nI v) hi h4
      rw [v2, d218, e1, kV_v, if_neg (nI_pos (by omega)), bz_1, ep]
      exact ⟨S1, deT x q, q, rfl, hd.2, q1, (fun hL => by cases hL), fun L hL => by cases hL; exact ⟨by show skT x (deT x q) = skT x (tkE x q); rw [v5], w1⟩⟩
end RK
