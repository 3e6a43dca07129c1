/-! a line of the law, read by the reference -/
def RQ3 (S S' : PZ) : Prop := (∀ k j, ¬ (k = 218 ∧ (j = 13 ∨ j = 16)) → zF S' k j = zF S k j) ∧ (∀ k, k ≠ 219 → zA S' k = zA S k) ∧ (∀ k, k < 1154 → zA S' 219 k = zA S 219 k) ∧ (∀ k j, zR S' k j = zR S k j) ∧ (∀ k, zL S' k = zL S k)
def RLn (Θ : GP) (S : PZ) (ω : OW) (n : Nat) (x : TX) (l i : Nat) (o : Nat × Option LI) (r : RO) : Prop := ∃ S' p b, r = some (.inl (some (.int (b01 o.2.isSome)), laz Θ (mT S' p b) ω, n)) ∧ p ≤ x.1 ∧ RQ3 S S' ∧ (o.2 = none → b = o.1) ∧ ∀ ln, o.2 = some ln → skT x p = o.1 ∧ zF S' 218 16 = nI (i + ln.2.2.2.1.length) ∧ (zA S' 219 (4 * l + 1155) = ln.1 ∧ zA S' 219 (4 * l + 1156) = ln.2.1 ∧ zA S' 219 (4 * l + 1157) = nI i ∧ zA S' 219 (4 * l + 1158) = nI (i + ln.2.2.2.1.length)) ∧ lsD (zA S' 219) i ln.2.2.2.1 ∧ ∀ k, (k < 4 * l + 1155 ∨ (1203 ≤ k ∧ k < 2 * i + 1203)) → zA S' 219 k = zA S 219 k
theorem ixl0 (l : Nat) : (1155 : Int32) + 4 * nI l = nI (4 * l + 1155) := by
  show nI 1155 + nI 4 * nI l = _
  rw [nI_mul, nI_add, Nat.add_comm]
theorem nI_p3 (s : Nat) : nI s + 3 = nI (s + 3) := nI_add s 3
section LR
variable {Θ : GP} {S S' S'' : PZ} {ω : OW} {n : Nat} {x : TX}
theorem RQ3.rf (S : PZ) : RQ3 S S := ⟨fun _ _ _ => rfl, fun _ _ => rfl, fun _ _ => rfl, fun _ _ => rfl, fun _ => rfl⟩
theorem RQ3.trans (h : RQ3 S S') (g : RQ3 S' S'') : RQ3 S S'' := ⟨fun k j q => (g.1 k j q).trans (h.1 k j q), fun k q => (g.2.1 k q).trans (h.2.1 k q), fun k q => (g.2.2.1 k q).trans (h.2.2.1 k q), fun k j => (g.2.2.2.1 k j).trans (h.2.2.2.1 k j), fun k => (g.2.2.2.2 k).trans (h.2.2.2.2 k)⟩
theorem RQl.l (h : RQl S S') : RQ3 S S' := ⟨h.1, h.2.1, fun k q => h.2.2.1 k (by omega), h.2.2.2.1, h.2.2.2.2⟩
theorem RQ3.nA (h : RQ3 S S') {k : Nat} {v : Int32} (hk : 1154 ≤ k) : RQ3 S (uA S' 219 (upd (zA S' 219) k v)) := ⟨h.1, fun a z => by rw [zA_ne _ _ z, h.2.1 a z], fun a z => by rw [zA_eq, upd_ne _ _ (by omega), h.2.2.1 a z], h.2.2.2.1, h.2.2.2.2⟩
theorem RQ3.n13 (h : RQ3 S S') {v : Int32} : RQ3 S (uF S' 218 13 v) := ⟨fun k j q => by rw [zF_ne _ _ (by omega)]; exact h.1 k j q, h.2.1, h.2.2.1, h.2.2.2.1, h.2.2.2.2⟩
theorem MTx.r3 (h : MTx S x) (g : RQ3 S S') : MTx S' x := ⟨by rw [g.1 218 11 (by omega)]; exact h.1, h.2.1, by rw [g.2.1 224 (by omega)]; exact h.2.2⟩
theorem m_ln128 {l i j p b : Nat} (hl : l < 12) (hj : zF S 218 16 = nI j) : J_X11_readLawLine_128 Θ (gb Θ + 218) (nI (4 * l + 1155)) (laz Θ (mT S p b) ω) n = some (.inl (some (.int 1), laz Θ (mT (uA S 219 (upd (zA S 219) (4 * l + 1158) (nI j))) p b) ω, n)) := by
  unfold J_X11_readLawLine_128
  rw [a218_1, a218_16, mT_ne _ _ _ (by omega), hj, nI_p3, s_219 (by omega), mT_uA]
  rfl
theorem m_ln53 (h : MTx S x) {q l i : Nat} {kd : Int32} (hl : l < 12) (hq : q ≤ x.1) (hk : (0 : Int32) ≤ kd) (hi : zF S 218 16 = nI i) (h7 : q + 4 ≤ weT x q) (h4 : i ≤ q) : RLn Θ S ω n x l i (liK x q kd) (J_X11_readLawLine_53 Θ (gb Θ + 218) (nI (4 * l + 1155)) kd (nI (4 * l + 1155)) (gb Θ + 219) (laz Θ (mT S (weT x q) q) ω) n) := by
  have hx := h.2.1
  have hw := weT_b hq
  have hs1 := skT_b hw.2
  have hd := deT_b hs1.2
  have hs2 := skT_b hd.2
  have ka : RQ3 S (uA S 219 (upd (zA S 219) (4 * l + 1155) kd)) := (RQ3.rf S).nA (by omega)
  unfold J_X11_readLawLine_53 liK
  rw [s_219 (by omega), mT_uA, a218_1, l_219 (by omega), mT_A, zA_eq, mT_A, upd_same, if_pos hk, a218_1, d218, m_number (h.r3 ka) hw.2, kI_v, nI_1, s_219 (by omega), mT_uA, uA_uA, mT_A, zA_eq, a218_1, l_219 (by omega), mT_A, zA_eq, upd_same]
  have kb : RQ3 S (uA S 219 (upd (upd (zA S 219) (4 * l + 1155) kd) (4 * l + 1155 + 1) (nmR x (skT x (weT x q)) 0 30))) := by
    have := ka.nA (k := 4 * l + 1155 + 1) (v := nmR x (skT x (weT x q)) 0 30) (by omega)
    rw [uA_uA, zA_eq] at this
    exact this
  by_cases y : nmR x (skT x (weT x q)) 0 30 = -1
  · rw [if_pos y, y, if_neg (show ¬ (0 : Int32) ≤ -1 by decide)]
    rw [y] at kb
    exact ⟨_, _, _, rfl, hd.2, kb, fun _ => rfl, fun ln e => by cases e⟩
  · obtain ⟨v, v1, v2, _, _, v5⟩ := nm_rg hs1.2 y
    have hdg : skT x (weT x q) + 1 ≤ deT x (skT x (weT x q)) := by
      have g := nm_ne hs1.2 y
      have hz := of_decide_eq_true g.2
      have e1 : deT x (skT x (weT x q)) = deT x (skT x (weT x q) + 1) := deT_s g.2
      have e2 := (deT_b (x := x) (p := skT x (weT x q) + 1) (by omega)).1
      omega
    rw [if_neg y]
    generalize nmR x (skT x (weT x q)) 0 30 = vv at *
    subst v2
    rw [if_pos (ge0 v1), a218_1, a218_16, mT_ne _ _ _ (by omega), zF_uA, hi, nI_p2, s_219 (by omega), mT_uA, uA_uA, mT_A, zA_eq, b218_13, mT_u _ _ _ _ (by omega)]
    have kc : RQ3 S (uF (uA S 219 (upd (upd (upd (zA S 219) (4 * l + 1155) kd) (4 * l + 1155 + 1) (nI v)) (4 * l + 1155 + 2) (nI i))) 218 13 0) := by
      have := (kb.nA (k := 4 * l + 1155 + 2) (v := nI i) (by omega)).n13 (v := 0)
      rw [uA_uA, zA_eq] at this
      exact this
    have zc : zA (uF (uA S 219 (upd (upd (upd (zA S 219) (4 * l + 1155) kd) (4 * l + 1155 + 1) (nI v)) (4 * l + 1155 + 2) (nI i))) 218 13 0) 219 = upd (upd (upd (zA S 219) (4 * l + 1155) kd) (4 * l + 1155 + 1) (nI v)) (4 * l + 1155 + 2) (nI i) := by rw [zA_uF, zA_eq]
    have fc : zF (uF (uA S 219 (upd (upd (upd (zA S 219) (4 * l + 1155) kd) (4 * l + 1155 + 1) (nI v)) (4 * l + 1155 + 2) (nI i))) 218 13 0) 218 16 = nI i := by rw [zF_ne _ _ (by omega)]; exact hi
    have dc : zF (uF (uA S 219 (upd (upd (upd (zA S 219) (4 * l + 1155) kd) (4 * l + 1155 + 1) (nI v)) (4 * l + 1155 + 2) (nI i))) 218 13 0) 218 13 = nI 0 := zF_eq _ _ _ _
    generalize uF (uA S 219 (upd (upd (upd (zA S 219) (4 * l + 1155) kd) (4 * l + 1155 + 1) (nI v)) (4 * l + 1155 + 2) (nI i))) 218 13 0 = T at *
    have row : zA T 219 (4 * l + 1155) = kd ∧ zA T 219 (4 * l + 1156) = nI v ∧ zA T 219 (4 * l + 1157) = nI i := by
      rw [zc]
      exact ⟨by rw [upd_ne _ _ (by omega), upd_ne _ _ (by omega), upd_same], by rw [upd_ne _ _ (by omega)]; exact upd_same _ _ _, upd_same _ _ _⟩
    have low : ∀ k, (k < 4 * l + 1155 ∨ 1203 ≤ k) → zA T 219 k = zA S 219 k := fun k hk => by rw [zc, upd_ne _ _ (by omega), upd_ne _ _ (by omega), upd_ne _ _ (by omega)]
    rw [d218, m_passes (h.r3 kc) (by decide) hd.2, kI_v]
    cases hz : isWd x (skT x (deT x (skT x (weT x q)))) 20 with
    | false =>
      rw [if_pos (show b01 false = 0 from rfl), if_neg (show ¬ false = true by decide), if_neg (show ¬ false = true by decide), m_ln128 (i := i) hl fc]
      refine ⟨_, _, _, rfl, hs2.2, kc.nA (by omega), (fun e => by cases e), fun ln e => ?_⟩
      cases e
      refine ⟨skT_sk _ _, fc, ⟨?_, ?_, ?_, ?_⟩, fun k hk => absurd hk (Nat.not_lt_zero _), fun k hk => ?_⟩
      · rw [zA_eq, upd_ne _ _ (by omega)]; exact row.1
      · rw [zA_eq, upd_ne _ _ (by omega)]; exact row.2.1
      · rw [zA_eq, upd_ne _ _ (by omega)]; exact row.2.2
      · rw [zA_eq, upd_same]; rfl
      · rw [zA_eq, upd_ne _ _ (by omega), low k (by omega)]
    | true =>
      have hn := wd_nx (by omega) hz hs2.2
      have hn1 : skT x (deT x (skT x (weT x q))) + 2 ≤ skT x (weT x (skT x (deT x (skT x (weT x q))))) := hn.1
      have hw2 := weT_b hs2.2
      rw [if_neg (show ¬ b01 true = 0 by decide), if_pos rfl, if_pos rfl, d218]
      obtain ⟨S1, p1, b1, e1, g1, g2, g3, g4⟩ := m_cond (m_atom (Θ := Θ) (ω := ω) (n := n) hx 7 8 (by omega) (by omega) (by omega)) (atG hx 7) T (weT x (skT x (deT x (skT x (weT x q))))) (skT x (deT x (skT x (weT x q)))) _ i (h.r3 kc) hw2.2 rfl fc dc (by omega)
      rcases hm : cdP x (atP x 7) (skT x (weT x (skT x (deT x (skT x (weT x q)))))) with ⟨r, _ | c⟩
      · rw [hm] at e1 g3
        rw [e1, kI_v, if_pos (show b01 (cdO (r, none)).isSome = 0 from rfl)]
        exact ⟨S1, p1, b1, rfl, g1, kc.trans g2.l, fun _ => g3 rfl, fun ln e => by cases e⟩
      · rw [hm] at e1 g4
        obtain ⟨g5, g6⟩ := g4 _ rfl
        have g6 : RWl T S1 i c.2.1 := g6
        rw [e1, kI_v, if_neg (show ¬ b01 (cdO (r, some c)).isSome = 0 from isS c), m_ln128 (i := i) hl g6.1]
        refine ⟨_, _, _, rfl, g1, (kc.trans g2.l).nA (by omega), (fun e => by cases e), fun ln e => ?_⟩
        cases e
        refine ⟨g5, g6.1, ⟨?_, ?_, ?_, ?_⟩, fun k hk => ?_, fun k hk => ?_⟩
        · rw [zA_eq, upd_ne _ _ (by omega), g6.2.2.2 _ (by omega)]; exact row.1
        · rw [zA_eq, upd_ne _ _ (by omega), g6.2.2.2 _ (by omega)]; exact row.2.1
        · rw [zA_eq, upd_ne _ _ (by omega), g6.2.2.2 _ (by omega)]; exact row.2.2
        · rw [zA_eq, upd_same]
        · rw [zA_eq, upd_ne _ _ (by omega), upd_ne _ _ (by omega)]; exact g6.2.2.1 k hk
        · rw [zA_eq, upd_ne _ _ (by omega), g6.2.2.2 _ (by omega), low k (by omega)]
end LR
