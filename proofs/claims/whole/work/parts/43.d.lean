/-! what the reference's code of a condition says -/
def lsB (w : Nat → Int32) (i : Nat) (L : List (Int32 × Int32)) : Prop := ∀ k, k < L.length → w (2 * (i + k) + 354) = (L.getD k (0, 0)).1 ∧ w (2 * (i + k) + 355) = (L.getD k (0, 0)).2
theorem lsB.app {w : Nat → Int32} {i : Nat} {A B : List (Int32 × Int32)} (h : lsB w i (A ++ B)) : lsB w i A ∧ lsB w (i + A.length) B := by
  constructor
  · intro k hk
    have := h k (by rw [List.length_append]; omega)
    rw [List.getD_eq_getElem?_getD, List.getElem?_append_left hk, ← List.getD_eq_getElem?_getD] at this
    exact this
  · intro k hk
    have := h (A.length + k) (by rw [List.length_append]; omega)
    rw [List.getD_eq_getElem?_getD, List.getElem?_append_right (by omega), Nat.add_sub_cancel_left, ← List.getD_eq_getElem?_getD] at this
    rw [Nat.add_assoc i]
    exact this
section RM
variable {w f : Nat → Int32}
theorem rnM_add (k1 k2 : Nat) (q : QM) : rnM w f (k1 + k2) q = rnM w f k2 (rnM w f k1 q) := by
  induction k1 generalizing q with
  | zero => rw [Nat.zero_add]; rfl
  | succ k1 ih => rw [show k1 + 1 + k2 = (k1 + k2) + 1 by omega]; exact ih (s1M w f q)
theorem RnM.trans {k1 k2 : Nat} {q q' q'' : QM} (h1 : RnM w f k1 q q') (h2 : RnM w f k2 q' q'') : RnM w f (k1 + k2) q q'' := by
  refine ⟨by rw [rnM_add, h1.1, h2.1], fun j hj => ?_⟩
  by_cases z : j < k1
  · exact h1.2 j z
  · have := h2.2 (j - k1) (by omega)
    rw [show j = k1 + (j - k1) by omega, rnM_add, h1.1]
    exact this
theorem RnM.one {q q' : QM} (h : o1M w q) (e : s1M w f q = q') : RnM w f 1 q q' := by
  refine ⟨e, fun j hj => ?_⟩
  rw [show j = 0 by omega]
  exact h
/-- one value more -/
theorem m_push {i t k : Nat} {v : Nat → Int32} {y : Int32} (hk : k ≤ 8) (h1 : w (2 * i + 354) = nI k) (h2 : fvM f (nI k) (w (2 * i + 355)) = y) (hi : i < 400) (ht : t ≤ i) : RnM w f 1 (i, v, t) (i + 1, upd v t y, t + 1) := by
  refine RnM.one ⟨hi, ht, Or.inl ⟨k, hk, h1⟩⟩ ?_
  unfold s1M
  dsimp only
  rw [h1, if_pos (show nI k ≤ 8 from nI_le (b := 8) hk (by omega)), h2]
/-- two values become one -/
theorem m_bin {i t k : Nat} {v : Nat → Int32} {y : Int32} (hk : 9 ≤ k ∧ k ≤ 14 ∧ k ≠ 12) (h1 : w (2 * i + 354) = nI k) (h2 : opM (nI k) (v t) (v (t + 1)) = y) (hi : i < 400) (ht : t + 2 ≤ i) : RnM w f 1 (i, v, t + 2) (i + 1, upd v t y, t + 1) := by
  refine RnM.one ⟨hi, ht, Or.inr (Or.inr ⟨⟨k, hk.1, hk.2.1, hk.2.2, h1⟩, by show 2 ≤ t + 2; omega⟩)⟩ ?_
  unfold s1M
  dsimp only
  rw [h1, if_neg (show ¬ nI k ≤ 8 from nI_ge (a := 8) (by omega) (by omega)), if_neg (show ¬ nI k = 12 from fun u => hk.2.2 ((nI_eq (b := 12) (by omega) (by omega)).mp u)), show t + 2 - 2 = t by omega, show t + 2 - 1 = t + 1 by omega, h2]
theorem m_neg {i t : Nat} {v : Nat → Int32} (h1 : w (2 * i + 354) = 12) (hi : i < 400) (ht : t + 1 ≤ i) : RnM w f 1 (i, v, t + 1) (i + 1, upd v t (1 - v t), t + 1) := by
  refine RnM.one ⟨hi, ht, Or.inr (Or.inl ⟨h1, by show 1 ≤ t + 1; omega⟩)⟩ ?_
  unfold s1M
  dsimp only
  rw [h1, if_neg (show ¬ (12 : Int32) ≤ 8 by decide), if_pos rfl, show t + 1 - 1 = t by omega]
end RM
def GM (c : CE) : Prop := ∀ (w f v : Nat → Int32) (i t : Nat), lsB w i c.2.1 → i + c.2.1.length ≤ 400 → t ≤ i → FB f → ∃ v', RnM w f c.2.1.length (i, v, t) (i + c.2.1.length, v', t + 1) ∧ v' t = b01 (c.2.2.2 f) ∧ ∀ j, j < t → v' j = v j
theorem fv_j : ∀ {f : Nat → Int32} {x : Int32} {j : Nat}, j < 8 → fvM f (nI j) x = f j := by
  intro f x j hj
  have hc : j = 0 ∨ j = 1 ∨ j = 2 ∨ j = 3 ∨ j = 4 ∨ j = 5 ∨ j = 6 ∨ j = 7 := by omega
  rcases hc with rfl | rfl | rfl | rfl | rfl | rfl | rfl | rfl <;> rfl
theorem tag_M {j : Nat} (hj : j = 6 ∨ j = 7) : GM (tagC j) := by
  intro w f v i t hc hl ht hf
  have h0 := hc 0 (by show 0 < 1; omega)
  have hl : i + 1 ≤ 400 := hl
  refine ⟨upd v t (f j), m_push (k := j) (by omega) h0.1 (fv_j (by omega)) (by omega) ht, ?_, fun k hk => upd_ne _ _ (by omega)⟩
  rw [upd_same]
  have hb : f j = 0 ∨ f j = 1 := by rcases hj with rfl | rfl; exact hf.2.1; exact hf.2.2
  show f j = b01 (decide (f j = 1))
  rcases hb with u | u
  · rw [u]; rfl
  · rw [u]; rfl
theorem pt_M {w f v : Nat → Int32} {i t : Nat} {a : PT} (ha : okP a) (hf : FB f) (h : w (2 * i + 354) = (pcM a).1 ∧ w (2 * i + 355) = (pcM a).2) (hi : i < 400) (ht : t ≤ i) : RnM w f 1 (i, v, t) (i + 1, upd v t (nI (ptV f a)), t + 1) := by
  unfold pcM at h
  unfold ptV
  by_cases z : a.1 = true
  · rw [if_pos z] at h ⊢
    obtain ⟨k, k1, k2⟩ := hf.1 a.2 (ha.1 z)
    refine m_push (k := a.2) (by have := ha.1 z; omega) h.1 ?_ hi ht
    rw [fv_j (by have := ha.1 z; omega), k2, nI_clamp (by omega)]
  · rw [if_neg z] at h ⊢
    refine m_push (k := 8) (by omega) h.1 ?_ hi ht
    rw [h.2]; rfl
theorem rs_M {w f : Nat → Int32} (hf : FB f) : ∀ (L : List PT) (i t A : Nat) (v : Nat → Int32), (∀ p ∈ L, okP p) → lsB w i (rsM L) → i + 2 * L.length ≤ 400 → t + 1 ≤ i → v t = nI A → ∃ v', RnM w f (2 * L.length) (i, v, t + 1) (i + 2 * L.length, v', t + 1) ∧ v' t = nI (A + suV f L) ∧ ∀ j, j < t → v' j = v j := by
  intro L
  induction L with
  | nil => intro i t A v _ _ _ _ hv; exact ⟨v, ⟨rfl, fun j hj => absurd hj (Nat.not_lt_zero _)⟩, hv, fun _ _ => rfl⟩
  | cons p L ih =>
    intro i t A v hL hc hl ht hv
    rw [List.length_cons] at hl ⊢
    have hp := hL p (List.mem_cons_self)
    have c0 := hc 0 (by show 0 < (rsM L).length + 1 + 1; omega)
    have c1 := hc 1 (by show 1 < (rsM L).length + 1 + 1; omega)
    have r1 := pt_M (v := v) (t := t + 1) hp hf c0 (by omega) ht
    have r2 := m_bin (w := w) (f := f) (i := i + 1) (t := t) (k := 9) (v := upd v (t + 1) (nI (ptV f p))) (y := nI (A + ptV f p)) (by omega) c1.1 (by
      rw [upd_ne _ _ (by omega), hv, upd_same]
      show nI A + nI (ptV f p) = _
      rw [nI_add]) (by omega) (by omega)
    obtain ⟨v', r3, e1, e2⟩ := ih (i + 2) t (A + ptV f p) (upd (upd v (t + 1) (nI (ptV f p))) t (nI (A + ptV f p))) (fun q hq => hL q (List.mem_cons_of_mem _ hq)) (fun k hk => by
      have := hc (k + 2) (by show k + 2 < (rsM L).length + 1 + 1; omega)
      rw [show i + 2 + k = i + (k + 2) by omega]
      exact this) (by omega) (by omega) (upd_same _ _ _)
    refine ⟨v', ?_, ?_, fun j hj => ?_⟩
    · have := (r1.trans r2).trans r3
      rw [show 1 + 1 + 2 * L.length = 2 * (L.length + 1) by omega, show i + 2 + 2 * L.length = i + 2 * (L.length + 1) by omega] at this
      exact this
    · rw [e1]
      show _ = nI (A + (ptV f p + suV f L))
      rw [Nat.add_assoc]
    · rw [e2 j hj, upd_ne _ _ (by omega), upd_ne _ _ (by omega)]
theorem su_M {w f v : Nat → Int32} (hf : FB f) {L : List PT} {i t : Nat} (hn : L ≠ []) (hL : ∀ p ∈ L, okP p) (hc : lsB w i (suM L)) (hl : i + (suM L).length ≤ 400) (ht : t ≤ i) : ∃ v', RnM w f (suM L).length (i, v, t) (i + (suM L).length, v', t + 1) ∧ v' t = nI (suV f L) ∧ ∀ j, j < t → v' j = v j := by
  cases L with
  | nil => exact absurd rfl hn
  | cons p L =>
    have el : (suM (p :: L)).length = 1 + 2 * L.length := by
      show (rsM L).length + 1 = _
      rw [rsM_len]; omega
    rw [el] at hl ⊢
    have r1 := pt_M (v := v) (t := t) (hL p (List.mem_cons_self)) hf (hc 0 (by rw [el]; omega)) (by omega) ht
    obtain ⟨v', r2, e1, e2⟩ := rs_M hf L (i + 1) t (ptV f p) (upd v t (nI (ptV f p))) (fun q hq => hL q (List.mem_cons_of_mem _ hq)) (fun k hk => by
      have := hc (k + 1) (by rw [el]; rw [rsM_len] at hk; omega)
      rw [show i + 1 + k = i + (k + 1) by omega]
      exact this) (by omega) (by omega) (upd_same _ _ _)
    refine ⟨v', ?_, e1, fun j hj => by rw [e2 j hj, upd_ne _ _ (by omega)]⟩
    have := r1.trans r2
    rw [show i + 1 + 2 * L.length = i + (1 + 2 * L.length) by omega] at this
    exact this
theorem cmp_M {l : Bool} {a b : List PT} (ha : ∀ p ∈ a, okP p) (hb : ∀ p ∈ b, okP p) (na : a ≠ []) (nb : b ≠ []) (la : a.length ≤ 400) (lb : b.length ≤ 400) : GM (cmpC l a b) := by
  intro w f v i t hc hl ht hf
  have hc : lsB w i (suM a ++ suM b ++ [(if l = true then 10 else 11, 0)]) := hc
  have el : (cmpC l a b).2.1.length = (suM a).length + (suM b).length + 1 := by
    show (suM a ++ suM b ++ [(if l = true then (10 : Int32) else 11, (0 : Int32))]).length = _
    rw [List.length_append, List.length_append]; rfl
  rw [el] at hl ⊢
  obtain ⟨c12, c3⟩ := hc.app
  obtain ⟨c1, c2⟩ := c12.app
  rw [List.length_append] at c3
  obtain ⟨v1, r1, e1, q1⟩ := su_M (v := v) (t := t) hf na ha c1 (by omega) ht
  have hsa : 1 ≤ (suM a).length := by
    cases a with
    | nil => exact absurd rfl na
    | cons p L => show 1 ≤ (rsM L).length + 1; omega
  have hsb : 1 ≤ (suM b).length := by
    cases b with
    | nil => exact absurd rfl nb
    | cons p L => show 1 ≤ (rsM L).length + 1; omega
  obtain ⟨v2, r2, e2, q2⟩ := su_M (v := v1) (t := t + 1) hf nb hb c2 (by omega) (by omega)
  obtain ⟨sa, la'⟩ := sum_l hf a ha
  obtain ⟨sb, lb'⟩ := sum_l hf b hb
  have c30 := (c3 0 (by show 0 < 1; omega)).1
  have c30 : w (2 * (i + ((suM a).length + (suM b).length)) + 354) = (if l = true then 10 else 11) := c30
  have h0 : (nI (suV f b) ≤ nI (suV f a)) ↔ suV f b ≤ suV f a := nI_leI (by omega) (by omega)
  have h1 : (nI (suV f a) ≤ nI (suV f b)) ↔ suV f a ≤ suV f b := nI_leI (by omega) (by omega)
  have ho : opM (nI (if l = true then 10 else 11)) (v2 t) (v2 (t + 1)) = b01 ((cmpC l a b).2.2.2 f) := by
    rw [q2 t (by omega), e1, e2]
    cases l with
    | true =>
      show (if nI (suV f b) ≤ nI (suV f a) then (0 : Int32) else 1) = b01 (decide (suV f a < suV f b))
      by_cases z : suV f b ≤ suV f a
      · rw [if_pos (h0.mpr z), decide_eq_false (by omega)]; rfl
      · rw [if_neg (fun u => z (h0.mp u)), decide_eq_true (by omega)]; rfl
    | false =>
      show (if nI (suV f a) ≤ nI (suV f b) then (0 : Int32) else 1) = b01 (decide (suV f b < suV f a))
      by_cases z : suV f a ≤ suV f b
      · rw [if_pos (h1.mpr z), decide_eq_false (by omega)]; rfl
      · rw [if_neg (fun u => z (h1.mp u)), decide_eq_true (by omega)]; rfl
  have r3 := m_bin (w := w) (f := f) (i := i + ((suM a).length + (suM b).length)) (t := t) (k := if l = true then 10 else 11) (v := v2) (by split <;> omega) (by rw [c30]; split <;> rfl) ho (by omega) (by omega)
  refine ⟨upd v2 t (b01 ((cmpC l a b).2.2.2 f)), ?_, upd_same _ _ _, fun j hj => by rw [upd_ne _ _ (by omega), q2 j (by omega), q1 j hj]⟩
  have := (r1.trans r2)
  rw [Nat.add_assoc i] at this
  exact this.trans r3
theorem neg_M {a : CE} (ha : GM a) (h1 : 1 ≤ a.2.1.length) : GM (negC a) := by
  intro w f v i t hc hl ht hf
  have hc : lsB w i (a.2.1 ++ [(12, 0)]) := hc
  have el : (negC a).2.1.length = a.2.1.length + 1 := List.length_append
  rw [el] at hl ⊢
  obtain ⟨c1, c2⟩ := hc.app
  obtain ⟨v1, r1, e1, q1⟩ := ha w f v i t c1 (by omega) ht hf
  have r2 := m_neg (w := w) (f := f) (i := i + a.2.1.length) (t := t) (v := v1) (c2 0 (by show 0 < 1; omega)).1 (by omega) (by omega)
  refine ⟨_, r1.trans r2, ?_, fun j hj => by rw [upd_ne _ _ (by omega), q1 j hj]⟩
  rw [upd_same, e1]
  show 1 - b01 (a.2.2.2 f) = b01 (!(a.2.2.2 f))
  cases a.2.2.2 f <;> rfl
theorem two_M {a b : CE} {k : Nat} (ha : GM a) (hb : GM b) (h1 : 1 ≤ a.2.1.length) (h2 : 1 ≤ b.2.1.length) (hk : k = 13 ∨ k = 14) (g : (Nat → Int32) → Bool) (hg : ∀ f, opM (nI k) (b01 (a.2.2.2 f)) (b01 (b.2.2.2 f)) = b01 (g f)) (w f v : Nat → Int32) (i t : Nat) (hc : lsB w i (a.2.1 ++ b.2.1 ++ [(nI k, 0)])) (hl : i + (a.2.1 ++ b.2.1 ++ [(nI k, (0 : Int32))]).length ≤ 400) (ht : t ≤ i) (hf : FB f) : ∃ v', RnM w f (a.2.1 ++ b.2.1 ++ [(nI k, (0 : Int32))]).length (i, v, t) (i + (a.2.1 ++ b.2.1 ++ [(nI k, (0 : Int32))]).length, v', t + 1) ∧ v' t = b01 (g f) ∧ ∀ j, j < t → v' j = v j := by
  have el : (a.2.1 ++ b.2.1 ++ [(nI k, (0 : Int32))]).length = a.2.1.length + b.2.1.length + 1 := by rw [List.length_append, List.length_append]; rfl
  rw [el] at hl ⊢
  obtain ⟨c12, c3⟩ := hc.app
  obtain ⟨c1, c2⟩ := c12.app
  rw [List.length_append] at c3
  obtain ⟨v1, r1, e1, q1⟩ := ha w f v i t c1 (by omega) ht hf
  obtain ⟨v2, r2, e2, q2⟩ := hb w f v1 (i + a.2.1.length) (t + 1) c2 (by omega) (by omega) hf
  have r3 := m_bin (w := w) (f := f) (i := i + (a.2.1.length + b.2.1.length)) (t := t) (k := k) (v := v2) (y := b01 (g f)) (by omega) (c3 0 (by show 0 < 1; omega)).1 (by rw [q2 t (by omega), e1, e2, hg]) (by omega) (by omega)
  refine ⟨upd v2 t (b01 (g f)), ?_, upd_same _ _ _, fun j hj => by rw [upd_ne _ _ (by omega), q2 j (by omega), q1 j hj]⟩
  have := r1.trans r2
  rw [Nat.add_assoc i] at this
  exact this.trans r3
theorem con_M {a b : CE} (ha : GM a) (hb : GM b) (h1 : 1 ≤ a.2.1.length) (h2 : 1 ≤ b.2.1.length) : GM (conC a b) := two_M (k := 13) ha hb h1 h2 (Or.inl rfl) (conC a b).2.2.2 (fun f => by
  show (if b01 (a.2.2.2 f) + b01 (b.2.2.2 f) = 2 then (1 : Int32) else 0) = b01 (a.2.2.2 f && b.2.2.2 f)
  cases a.2.2.2 f <;> cases b.2.2.2 f <;> rfl)
theorem dis_M {a b : CE} (ha : GM a) (hb : GM b) (h1 : 1 ≤ a.2.1.length) (h2 : 1 ≤ b.2.1.length) : GM (disC a b) := two_M (k := 14) ha hb h1 h2 (Or.inr rfl) (disC a b).2.2.2 (fun f => by
  show (if b01 (a.2.2.2 f) + b01 (b.2.2.2 f) ≤ 0 then (0 : Int32) else 1) = b01 (a.2.2.2 f || b.2.2.2 f)
  cases a.2.2.2 f <;> cases b.2.2.2 f <;> rfl)
