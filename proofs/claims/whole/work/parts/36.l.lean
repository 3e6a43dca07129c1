/-! behind a ride: props are worn, and known -/
theorem b_1 : ∀ i, i < 32 → bt 1 i = decide (i = 0) := by decide +kernel
theorem and1_bt (y : Int32) : (y &&& 1 = 1) ↔ bt y 0 = true := by
  constructor
  · intro h
    have e := congrArg (fun z => bt z 0) h
    have e : bt (y &&& 1) 0 = bt 1 0 := e
    have this : bt 1 0 = true := by decide +kernel
    rw [b_and, this, Bool.and_true] at e
    exact e
  · intro h
    apply b_ext
    intro i hi
    rw [b_and, b_1 i hi]
    by_cases z : i = 0
    · subst z; rw [h]; rfl
    · rw [decide_eq_false z, Bool.and_false]
theorem hasS_bt {x : Int32} {p : Nat} (hp : p < 32) : hasS x (nI p) = 1 ↔ bt x p = true := by
  have e : bt (x >>> (nI p &&& 31)) 0 = bt x p := by
    rw [b_sshr p hp x (by decide), if_pos (by omega)]
    rfl
  rw [← e, ← and1_bt]
  unfold hasS
  split
  · rename_i h; exact ⟨fun _ => h, fun _ => rfl⟩
  · rename_i h; exact ⟨fun z => absurd z (by decide), fun z => absurd z h⟩
theorem bt_sh {p : Nat} (hp : p < 32) {i : Nat} (hi : i < 32) : bt ((1 : Int32) <<< (nI p &&& 31)) i = decide (i = p) := by
  rw [b_shl p hp 1 hi]
  by_cases h : p ≤ i
  · rw [decide_eq_true h, Bool.true_and, b_1 _ (by omega)]
    by_cases z : i = p
    · rw [decide_eq_true z, decide_eq_true (by omega)]
    · rw [decide_eq_false z, decide_eq_false (by omega)]
  · rw [decide_eq_false h, Bool.false_and, decide_eq_false (by omega)]
/-- s is come to, and has a prop -/
def com (c : RPar) (q : RSt) (s : Nat) : Prop := (rst c q s).1 = -1 ∧ c.2.2.1 s ≠ -1
theorem ROK.pr {c : RPar} (h : ROK c) {s : Nat} (hs : s < 10) (hn : c.2.2.1 s ≠ -1) : rpr c s < cP c.1 ∧ c.2.2.1 s = nI (rpr c s) ∧ c.1 (4 * rpr c s + 12) = nI s := by
  have h8 := h.1.P8
  rcases h.2.2.1 s hs with z | ⟨p, hp, a1, a2⟩
  · exact absurd z hn
  · have e : rpr c s = p := by unfold rpr; rw [a1]; exact nI_clamp (by omega)
    rw [e]; exact ⟨hp, a1, a2⟩
theorem cmB_bt {c : RPar} (h : ROK c) (q : RSt) : ∀ k, k ≤ 10 → ∀ p, p < 8 → (bt (cmB c q k) p = true ↔ ∃ s, s < k ∧ com c q s ∧ rpr c s = p) := by
  have h8 := h.1.P8
  intro k
  induction k with
  | zero =>
    intro _ p hp
    rw [show cmB c q 0 = 0 from rfl, b_0]
    constructor
    · intro z; cases z
    · rintro ⟨s, hs, _⟩; omega
  | succ k ih =>
    intro hk p hp
    have hi := ih (by omega) p hp
    unfold cmB
    by_cases z : (rst c q k).1 = -1 ∧ c.2.2.1 k ≠ -1
    · obtain ⟨a1, a2, a3⟩ := h.pr (show k < 10 by omega) z.2
      rw [if_pos z, b_or, Bool.or_eq_true, hi, a2, bt_sh (by omega) (by omega), decide_eq_true_iff]
      constructor
      · rintro (⟨s, b1, b2, b3⟩ | b)
        · exact ⟨s, by omega, b2, b3⟩
        · exact ⟨k, by omega, z, b.symm⟩
      · rintro ⟨s, b1, b2, b3⟩
        by_cases e : s = k
        · subst e; exact Or.inr b3.symm
        · exact Or.inl ⟨s, by omega, b2, b3⟩
    · rw [if_neg z, hi]
      constructor
      · rintro ⟨s, b1, b2, b3⟩; exact ⟨s, by omega, b2, b3⟩
      · rintro ⟨s, b1, b2, b3⟩
        by_cases e : s = k
        · subst e; exact absurd b2 z
        · exact ⟨s, by omega, b2, b3⟩
def m99 (x : Int32) : Int32 := if x < 99 then x else 99
/-- the world behind the wear of the first k slots -/
def wkS (c : RPar) (q : RSt) : Nat → Nat → Int32
  | 0 => c.1
  | k + 1 => if (rst c q k).1 = -1 ∧ c.2.2.1 k ≠ -1 then upd (wkS c q k) (4 * rpr c k + 11) (m99 (c.1 (4 * rpr c k + 11) + weS c.2.1 (rfc c k (rst c q k).2.1))) else wkS c q k
theorem wkS_ne (c : RPar) (q : RSt) {i : Nat} (hi : ∀ s, i ≠ 4 * rpr c s + 11) : ∀ k, wkS c q k i = c.1 i := by
  intro k
  induction k with
  | zero => rfl
  | succ k ih =>
    unfold wkS
    split
    · rw [upd_ne _ _ (hi k), ih]
    · exact ih
theorem wkS_ne4 (c : RPar) (q : RSt) {i : Nat} (hi : i % 4 ≠ 3 ∨ i < 11) (k : Nat) : wkS c q k i = c.1 i := wkS_ne c q (fun s => by omega) k
theorem wkS_big {c : RPar} (h : ROK c) (q : RSt) {i : Nat} (hi : 43 ≤ i) : ∀ k, k ≤ 10 → wkS c q k i = c.1 i := by
  have h8 := h.1.P8
  intro k
  induction k with
  | zero => intro _; rfl
  | succ k ih =>
    intro hk
    unfold wkS
    split
    · rename_i z
      have := (h.pr (show k < 10 by omega) z.2).1
      rw [upd_ne _ _ (by omega), ih (by omega)]
    · exact ih (by omega)
theorem wkS_no {c : RPar} (q : RSt) {p : Nat} : ∀ k, (∀ s, s < k → com c q s → rpr c s ≠ p) → wkS c q k (4 * p + 11) = c.1 (4 * p + 11) := by
  intro k
  induction k with
  | zero => intro _; rfl
  | succ k ih =>
    intro h
    unfold wkS
    split
    · rename_i z
      have := h k (by omega) z
      rw [upd_ne _ _ (by omega)]
      exact ih (fun s hs => h s (by omega))
    · exact ih (fun s hs => h s (by omega))
theorem wkS_yes {c : RPar} (h : ROK c) (q : RSt) {s : Nat} (hc : com c q s) : ∀ k, s < k → k ≤ 10 → wkS c q k (4 * rpr c s + 11) = m99 (c.1 (4 * rpr c s + 11) + weS c.2.1 (rfc c s (rst c q s).2.1)) := by
  intro k
  induction k with
  | zero => intro hs; omega
  | succ k ih =>
    intro hs hk
    unfold wkS
    by_cases e : s = k
    · subst e
      rw [if_pos (show (rst c q s).1 = -1 ∧ c.2.2.1 s ≠ -1 from hc), upd_same]
    · split
      · rename_i z
        rw [upd_ne _ _ (fun y => e (h.inj (by omega) (by omega) hc.2 z.2 (by omega)))]
        exact ih (by omega) (by omega)
      · exact ih (by omega) (by omega)
theorem m99_rg {x : Int32} (h : Rg x 1000000) : Rg (m99 x) 99 := by
  obtain ⟨k, hk, rfl⟩ := h
  unfold m99
  by_cases z : k < 99
  · rw [if_pos (show nI k < 99 from nI_lt (b := 99) z (by decide))]; exact ⟨k, by omega, rfl⟩
  · rw [if_neg (show ¬ nI k < 99 from nI_nlt (b := 99) (by omega) (by omega))]; exact ⟨99, by omega, rfl⟩
theorem weS_rg {c : RPar} (h : ROK c) (f : Nat → Int32) : Rg (weS c.2.1 f) 361 := by
  obtain ⟨a, ha, e⟩ := sumK_rg (fun l hl => (h.2.1.ln l hl).2) 2 f c.2.1.1 0 (by omega) h.2.1.1
  have := h.2.1.1
  exact ⟨1 + a, by omega, by unfold weS; rw [e]; exact nI_add 1 a⟩
theorem wkS_wb {c : RPar} (h : ROK c) (q : RSt) : ∀ k, k ≤ 10 → WB (wkS c q k) := by
  have h8 := h.1.P8
  intro k
  induction k with
  | zero => intro _; exact h.1
  | succ k ih =>
    intro hk
    unfold wkS
    split
    · rename_i z
      have hp := (h.pr (show k < 10 by omega) z.2).1
      obtain ⟨a, ha, ea⟩ := (h.1.2.2.2.2.2.2.2.1 (rpr c k) (by omega)).2.2.1
      obtain ⟨b, hb, eb⟩ := weS_rg h (rfc c k (rst c q k).2.1)
      refine (ih (by omega)).put (by omega) (by omega) (by omega) (by omega) (by omega) (fun p hp' => ⟨by omega, by omega, fun _ => ?_, by omega⟩) (fun a ha => ⟨by omega, by omega, by omega, by omega⟩)
      exact m99_rg ⟨a + b, by omega, by rw [ea, eb, nI_add]⟩
    · exact ih (by omega)
theorem wkS_cP (c : RPar) (q : RSt) (k : Nat) : cP (wkS c q k) = cP c.1 := congrArg Int32.toNatClampNeg (wkS_ne4 c q (by omega) k)
theorem wkS_law {c : RPar} (h : ROK c) (q : RSt) (k : Nat) (hk : k ≤ 10) : LawM (wkS c q k) c.2.1 := h.2.1.congr (fun i hi => by
  rcases hi with hi | rfl
  · exact wkS_big h q (by omega) k hk
  · exact wkS_ne4 c q (by omega) k)
/-- c, the props worn so far -/
def cK (c : RPar) (q : RSt) (k : Nat) : RPar := (wkS c q k, c.2)
theorem cK_ok {c : RPar} (h : ROK c) (q : RSt) {k : Nat} (hk : k ≤ 10) : ROK (cK c q k) := by
  refine ⟨wkS_wb h q k hk, wkS_law h q k hk, fun s hs => ?_, h.2.2.2⟩
  rcases h.2.2.1 s hs with z | ⟨p, hp, a1, a2⟩
  · exact Or.inl z
  · refine Or.inr ⟨p, by show p < cP (wkS c q k); rw [wkS_cP]; exact hp, a1, ?_⟩
    show wkS c q k (4 * p + 12) = nI s
    rw [wkS_ne4 c q (by omega)]
    exact a2
theorem cK_fc {c : RPar} (h : ROK c) (q : RSt) {k : Nat} (hk : k < 10) (hn : c.2.2.1 k ≠ -1) (t : Int32) : rfc (cK c q k) k t = rfc c k t := by
  have e : wkS c q k (4 * rpr c k + 11) = c.1 (4 * rpr c k + 11) := wkS_no q k (fun s hs hc y => by
    have := h.inj (show s < 10 by omega) hk hc.2 hn y
    omega)
  unfold rfc
  show fcS (wkS c q k) (rpr c k) t _ _ _ = fcS c.1 (rpr c k) t _ _ _
  unfold fcS
  rw [wkS_ne4 c q (show (4 * rpr c k + 12) % 4 ≠ 3 ∨ _ by omega), wkS_ne4 c q (show (4 * rpr c k + 10) % 4 ≠ 3 ∨ _ by omega), wkS_ne4 c q (show (4 * rpr c k + 9) % 4 ≠ 3 ∨ _ by omega), e]
  rfl
/-- behind a slot one is as tense as ahead of the next -/
theorem bhS_go {c : RPar} (h : ROK c) {q : RSt} (h0 : q.2.1 = 0) {s : Nat} (hs : s < 10) : bhS c q s = -1 ↔ (rst c q s).1 ≠ -1 := by
  unfold bhS
  by_cases z : (rst c q s).1 = -1
  · rw [if_pos z]
    obtain ⟨k, hk, e⟩ := rst_rg h h0 (s + 1) (by omega)
    rw [e, q_m1 (by omega)]
    exact ⟨False.elim, fun y => y z⟩
  · rw [if_neg z]
    exact ⟨fun _ => z, fun _ => rfl⟩
section WO
variable {Θ : GP} {S S0 : PZ} {ω : OW} {n : Nat} {c : RPar}
/-- the class's ride while it is worn on -/
def WX (Θ : GP) (S : PZ) (ω : OW) (c : RPar) (q : RSt) (k : Nat) : Prop := RX Θ S ω 202 (cK c q k) ∧ (∀ j, j < 10 → zA S 205 j = bhS c q j)
theorem x_wear1 (hO : ROK c) {q : RSt} (h0 : q.2.1 = 0) : ∀ (m k f : Nat) (S : PZ), k + m = 10 → m < f → WX Θ S ω c q k → XL 202 S0 S → (∀ j, zF S 202 j = zF S0 202 j) → ∃ S', L_X6_wearOn_4 Θ f (gb Θ + 202) (rst c q k).2.1 (nI k) (laz Θ S ω) n = L_X6_wearOn_84 Θ 5000 (gb Θ + 202) 0 (laz Θ S' ω) n ∧ WX Θ S' ω c q 10 ∧ XL 202 S0 S' ∧ (∀ j, zF S' 202 j = zF S0 202 j) := by
  have hR : isR 202 := Or.inl rfl
  have h8 := hO.1.P8
  intro m
  induction m with
  | zero =>
    intro k f S h1 h2 hw xl hf
    obtain ⟨f, rfl⟩ : ∃ g, f = g + 1 := ⟨f - 1, by omega⟩
    have : k = 10 := by omega
    subst this
    refine ⟨S, ?_, hw, xl, hf⟩
    unfold L_X6_wearOn_4 B_X6_wearOn_4 J_X6_wearOn_82
    rw [if_pos (by decide)]
  | succ m ih =>
    intro k f S h1 h2 hw xl hf
    obtain ⟨f, rfl⟩ : ∃ g, f = g + 1 := ⟨f - 1, by omega⟩
    obtain ⟨rx, hb⟩ := hw
    have hk : k < 10 := by omega
    by_cases z : (rst c q k).1 = -1
    · have hnb : ¬ bhS c q k = -1 := fun y => (bhS_go hO h0 hk).mp y z
      have eb : bhS c q k = (rst c q (k + 1)).2.1 := by unfold bhS; rw [if_pos z]
      by_cases y : c.2.2.1 k = -1
      · have ek : wkS c q (k + 1) = wkS c q k := by
          show (if (rst c q k).1 = -1 ∧ c.2.2.1 k ≠ -1 then _ else wkS c q k) = _
          rw [if_neg (fun u => u.2 y)]
        obtain ⟨S', e, o1, o2, o3⟩ := ih (k + 1) f S (by omega) (by omega) ⟨by unfold cK; rw [ek]; exact rx, hb⟩ xl hf
        refine ⟨S', ?_, o1, o2, o3⟩
        rw [← e]
        show B_X6_wearOn_4 Θ (L_X6_wearOn_4 Θ f) (gb Θ + 202) (rst c q k).2.1 (nI k) (laz Θ S ω) n = _
        unfold B_X6_wearOn_4 J_X6_wearOn_69
        rw [if_neg (show ¬ (10 : Int32) ≤ nI k from nI_ge (b := 10) (by omega) (by omega)), a202_10, l_205 hk, hb k hk, if_neg hnb, a202_1, l_203 hk, rx.2.2.2.2.1 k hk]
        rw [show (cK c q k).2.2.1 k = -1 from y, if_pos (by decide), a202_10, l_205 hk, hb k hk, eb, nI_1]
      · obtain ⟨p1, p2, p3⟩ := hO.pr hk y
        obtain ⟨g, m1, m2⟩ := x_meet (n := n) hR rx hk (show (cK c q k).2.2.1 k ≠ -1 from y) (rst c q k).2.1
        have ht : Rg (rst c q k).2.1 100000 := (rst_rg hO h0 k (by omega)).le (by omega)
        have w1 := x_weAt (n := n) hR rx hk (show (cK c q k).2.2.1 k ≠ -1 from y) ht m2
        rw [cK_fc hO q hk y] at w1
        obtain ⟨fs, o1, o2⟩ := x_law_ob rx
        have e17 : zA (uA S 207 g) 204 (rpr c k) = c.1 (4 * rpr c k + 11) := by
          rw [zA_ne _ _ (by decide)]
          have := (rx.2.2.2.1 (rpr c k) (by show _ < cP (wkS c q k); rw [wkS_cP]; exact p1)).2.2
          refine this.trans ?_
          exact wkS_no q k (fun s hs hc u => by
            have := hO.inj (show s < 10 by omega) hk hc.2 y u
            omega)
        have ek : wkS c q (k + 1) = upd (wkS c q k) (4 * rpr c k + 11) (m99 (c.1 (4 * rpr c k + 11) + weS c.2.1 (rfc c k (rst c q k).2.1))) := by
          show (if (rst c q k).1 = -1 ∧ c.2.2.1 k ≠ -1 then _ else wkS c q k) = _
          rw [if_pos ⟨z, y⟩]
        have xl' : XL 202 S0 (uA (uA S 207 g) 204 (upd (zA (uA S 207 g) 204) (rpr c k) (m99 (c.1 (4 * rpr c k + 11) + weS c.2.1 (rfc c k (rst c q k).2.1))))) := (xl.nA (by omega)).nA (by omega)
        have hw' : WX Θ (uA (uA S 207 g) 204 (upd (zA (uA S 207 g) 204) (rpr c k) (m99 (c.1 (4 * rpr c k + 11) + weS c.2.1 (rfc c k (rst c q k).2.1))))) ω c q (k + 1) := by
          obtain ⟨r1, r2, r3, r4, r5, r6, r7, r8, r9⟩ := rx
          refine ⟨⟨cK_ok hO q (by omega), r2, ?_, ?_, r5, r6, r7, r8, r9⟩, hb⟩
          · show zF S 14 3 = wkS c q (k + 1) 5
            rw [wkS_ne4 c q (by omega)]
            have : zF S 14 3 = wkS c q k 5 := r3
            rw [this, wkS_ne4 c q (by omega)]
          · intro p hp
            have hp : p < cP (wkS c q (k + 1)) := hp
            rw [wkS_cP] at hp
            obtain ⟨d1, d2, d3⟩ := r4 p (by show p < cP (wkS c q k); rw [wkS_cP]; exact hp)
            refine ⟨?_, ?_, ?_⟩
            · show zA S 15 p = wkS c q (k + 1) (4 * p + 9)
              rw [wkS_ne4 c q (by omega)]
              have : zA S 15 p = wkS c q k (4 * p + 9) := d1
              rw [this, wkS_ne4 c q (by omega)]
            · show zA S 16 p = wkS c q (k + 1) (4 * p + 10)
              rw [wkS_ne4 c q (by omega)]
              have : zA S 16 p = wkS c q k (4 * p + 10) := d2
              rw [this, wkS_ne4 c q (by omega)]
            · show upd (zA (uA S 207 g) 204) (rpr c k) _ p = wkS c q (k + 1) (4 * p + 11)
              rw [ek, zA_ne _ _ (show 204 ≠ 207 by decide)]
              unfold upd
              by_cases u : p = rpr c k
              · rw [if_pos u, if_pos (by omega)]
              · rw [if_neg u, if_neg (by omega)]; exact d3
        obtain ⟨S', e, o1', o2', o3'⟩ := ih (k + 1) f _ (by omega) (by omega) hw' xl' hf
        refine ⟨S', ?_, o1', o2', o3'⟩
        rw [← e]
        show B_X6_wearOn_4 Θ (L_X6_wearOn_4 Θ f) (gb Θ + 202) (rst c q k).2.1 (nI k) (laz Θ S ω) n = _
        unfold B_X6_wearOn_4 J_X6_wearOn_69
        rw [if_neg (show ¬ (10 : Int32) ≤ nI k from nI_ge (b := 10) (by omega) (by omega)), a202_10, l_205 hk, hb k hk, if_neg hnb, a202_1, l_203 hk, rx.2.2.2.2.1 k hk]
        rw [show (cK c q k).2.2.1 k = nI (rpr c k) from p2, if_neg (nI_pos (by omega)), a202_0, a14_17, d202, m1, kA_v, o_cO o1 o2, w1, kI_v, a202_2, a202_2, l_204 (by omega), e17, s_204 (by omega)]
        rw [a202_10, l_205 hk, zA_ne _ _ (show 205 ≠ 204 by decide), zA_ne _ _ (show 205 ≠ 202 + 5 by decide), hb k hk, eb, nI_1]
        rfl
    · have hnb : bhS c q k = -1 := (bhS_go hO h0 hk).mpr z
      have ek : ∀ j, k ≤ j → j ≤ 10 → wkS c q j = wkS c q k := by
        intro j h1 h2
        induction j with
        | zero => rw [show k = 0 by omega]
        | succ j ihj =>
          by_cases u : k = j + 1
          · rw [u]
          · have es : rst c q j = rst c q k := by
              have := rst_stop c q z (j - k)
              rw [show k + (j - k) = j by omega] at this
              exact this
            show (if (rst c q j).1 = -1 ∧ c.2.2.1 j ≠ -1 then _ else wkS c q j) = _
            rw [if_neg (by rw [es]; exact fun v => z v.1)]
            exact ihj (by omega) (by omega)
      refine ⟨S, ?_, ⟨by unfold cK; rw [ek 10 (by omega) (by omega)]; exact rx, hb⟩, xl, hf⟩
      unfold L_X6_wearOn_4 B_X6_wearOn_4 J_X6_wearOn_82
      rw [if_neg (show ¬ (10 : Int32) ≤ nI k from nI_ge (b := 10) (by omega) (by omega)), a202_10, l_205 hk, hb k hk, if_pos hnb]
end WO
