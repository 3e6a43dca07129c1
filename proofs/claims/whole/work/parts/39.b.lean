/-! ways: the reference's side -/
def cnl (w : Nat → Int32) : Nat → Nat
  | 0 => 0
  | p + 1 => cnl w p + (if w (4 * p + 12) = -1 then 0 else 1)
theorem npS_sPf (c : RPar) : ∀ s, npS c s = sPf (fun s => if c.2.2.1 s = -1 then 0 else 1) s := by
  intro s
  induction s with
  | zero => rfl
  | succ s ih =>
    unfold npS sPf
    rw [ih]
theorem cnl_np {w : Nat → Int32} (hW : WB w) {c : RPar} (hc : ∀ s, s < 10 → c.2.2.1 s = pin w (nI s)) : cnl w (cP w) = npS c 10 := by
  have h8 := hW.P8
  have key : ∀ k, k ≤ cP w → ∃ f : Nat → Nat, (∀ s, s < 10 → (f s = 1 ∧ ∃ p, p < k ∧ w (4 * p + 12) = nI s) ∨ (f s = 0 ∧ ∀ p, p < k → w (4 * p + 12) ≠ nI s)) ∧ sPf f 10 = cnl w k := by
    intro k
    induction k with
    | zero => intro _; exact ⟨fun _ => 0, fun s _ => Or.inr ⟨rfl, fun p hp => by omega⟩, sPf_0 10 (fun _ _ => rfl)⟩
    | succ k ih =>
      intro hk
      obtain ⟨f, h1, h2⟩ := ih (by omega)
      show ∃ f : Nat → Nat, _ ∧ sPf f 10 = cnl w k + (if w (4 * k + 12) = -1 then 0 else 1)
      by_cases z : w (4 * k + 12) = -1
      · refine ⟨f, fun s hs => ?_, by rw [if_pos z, h2, Nat.add_zero]⟩
        rcases h1 s hs with ⟨a, p, b1, b2⟩ | ⟨a, b⟩
        · exact Or.inl ⟨a, p, by omega, b2⟩
        · refine Or.inr ⟨a, fun p hp => ?_⟩
          by_cases y : p = k
          · subst y; rw [z]; exact fun u => (q_m1' (by omega)).mp u
          · exact b p (by omega)
      · rcases (hW.2.2.2.2.2.2.2.1 k (by omega)).2.2.2 with y | ⟨s0, g1, g2⟩
        · exact absurd y z
        · have hf : f s0 = 0 := by
            rcases h1 s0 (by omega) with ⟨a, p, b1, b2⟩ | ⟨a, b⟩
            · exact absurd ((hW.2.2.2.2.2.2.2.2.2 p k b1 (by omega) (b2.trans g2.symm)).symm.trans b2) (fun u => (q_m1' (by omega)).mp u)
            · exact a
          refine ⟨adN f s0 1, fun s hs => ?_, by rw [sPf_ad, if_pos (by omega), if_neg z, h2]⟩
          by_cases y : s = s0
          · subst y
            exact Or.inl ⟨by rw [adN_at, hf], k, by omega, g2⟩
          · rw [adN_ne _ _ y]
            rcases h1 s hs with ⟨a, p, b1, b2⟩ | ⟨a, b⟩
            · exact Or.inl ⟨a, p, by omega, b2⟩
            · refine Or.inr ⟨a, fun p hp => ?_⟩
              by_cases x : p = k
              · subst x; rw [g2]; exact fun u => y ((nI_eq (by omega) (by omega)).mp u).symm
              · exact b p (by omega)
  obtain ⟨f, h1, h2⟩ := key (cP w) (Nat.le_refl _)
  rw [← h2, npS_sPf]
  refine sPf_congr 10 (fun s hs => ?_)
  rw [hc s hs]
  rcases h1 s hs with ⟨a, p, b1, b2⟩ | ⟨a, b⟩
  · rcases pin_cases w (nI s) with ⟨_, y⟩ | ⟨q, q1, q2, _⟩
    · exact absurd b2 (y p b1)
    · rw [a, q2, if_neg (by rw [q_m1 (by omega)]; exact id)]
  · rcases pin_cases w (nI s) with ⟨y, _⟩ | ⟨q, q1, q2, q3⟩
    · rw [a, y, if_pos rfl]
    · exact absurd q3 (b q q1)
theorem cmx_nat {t c : Nat} (ht : t < 1000) (hc : c < 1000) : cmx (nI t - nI c) = nI (t - c) := by
  by_cases h : c ≤ t
  · rw [nI_sub h]
    unfold cmx
    by_cases z : t - c = 0
    · rw [z]; rfl
    · rw [if_pos (show (0 : Int32) < nI (t - c) from nI_lt (a := 0) (by omega) (by omega))]
  · have e : (nI t - nI c).toInt = (t : Int) - (c : Int) := toInt_sub_small (nI_toInt (by omega)) (nI_toInt (by omega)) (by omega) (by omega)
    unfold cmx
    rw [if_neg (by rw [Int32.lt_iff_toInt_lt, e, Int32.toInt_zero]; omega), show t - c = 0 by omega]
    rfl
/-- S' is as S but for what the reference writes in counting ways -/
def XY (S S' : PZ) : Prop := (∀ k j, ¬ (k = 218 ∧ ((18 ≤ j ∧ j ≤ 22) ∨ j = 36)) → zF S' k j = zF S k j) ∧ (∀ k, k ≠ 226 → k ≠ 230 → k ≠ 231 → k ≠ 232 → zA S' k = zA S k) ∧ (∀ k j, zR S' k j = zR S k j) ∧ (∀ k, zL S' k = zL S k)
theorem XY.rf (S : PZ) : XY S S := ⟨fun _ _ _ => rfl, fun _ _ _ _ _ => rfl, fun _ _ => rfl, fun _ => rfl⟩
theorem XY.trans {S S' S'' : PZ} (h : XY S S') (g : XY S' S'') : XY S S'' := ⟨fun k j q => (g.1 k j q).trans (h.1 k j q), fun k a b c d => (g.2.1 k a b c d).trans (h.2.1 k a b c d), fun k j => (g.2.2.1 k j).trans (h.2.2.1 k j), fun k => (g.2.2.2 k).trans (h.2.2.2 k)⟩
theorem XY.nF {S S' : PZ} (h : XY S S') {j : Nat} {v : Int32} (q : (18 ≤ j ∧ j ≤ 22) ∨ j = 36) : XY S (uF S' 218 j v) := ⟨fun k i z => by rw [zF_ne _ _ (by rintro ⟨rfl, rfl⟩; exact z ⟨rfl, q⟩), h.1 k i z], h.2.1, h.2.2.1, h.2.2.2⟩
theorem XY.nA {S S' : PZ} (h : XY S S') {k : Nat} {f : Nat → Int32} (q : k = 226 ∨ k = 230 ∨ k = 231 ∨ k = 232) : XY S (uA S' k f) := ⟨h.1, fun a x y z u => by rw [zA_ne _ _ (by omega), h.2.1 a x y z u], h.2.2.1, h.2.2.2⟩
theorem XY.kp {S S' : PZ} (h : XY S S') : Kp S S' := by
  obtain ⟨h1, h2, h3, h4⟩ := h
  refine ⟨fun k j q => h1 k j ?_, fun k q => ?_, fun k j _ _ => h3 k j⟩
  · rintro ⟨rfl, e⟩; simp [kpF] at q; omega
  · refine h2 k ?_ ?_ ?_ ?_ <;> (intro e; subst e; simp [kpA] at q)
theorem XY.idle {Θ : GP} {S S' : PZ} (h : XY S S') (hI : Idle Θ S) : Idle Θ S' := by
  obtain ⟨h1, h2, h3, h4⟩ := h
  obtain ⟨i1, i2, i3, i4⟩ := hI
  exact ⟨by rw [h3, h3]; exact i1, by rw [h2 216 (by omega) (by omega) (by omega) (by omega), h2 217 (by omega) (by omega) (by omega) (by omega), h2 200 (by omega) (by omega) (by omega) (by omega)]; exact i2, by rw [h1 218 23 (by omega)]; exact i3, by rw [h1 218 24 (by omega)]; exact i4⟩
/-- within a slot: what stands, what is gathered so far -/
def TI (S0 S : PZ) (s : Nat) (q : (Nat → Nat) × Nat) (X : Nat) : Prop := XY S0 S ∧ (∀ j, j ≠ 21 → j ≠ 22 → zF S 218 j = zF S0 218 j) ∧ zA S 230 = zA S0 230 ∧ (∀ u, u ≠ s → zA S 232 u = zA S0 232 u) ∧ (∀ u, u ≤ 60 → zA S 231 u = nI (q.1 u * X)) ∧ zA S 232 s = nI (q.2 * X)
section WM
variable {Θ : GP} {S S0 : PZ} {ω : OW} {n : Nat} {w : Nat → Int32} {lw : LW} {a : Nat}
theorem m_jolt {K36 : Nat → Int32 → Int32 → Int32 → OW → Nat → RO} {K96 : Nat → Int32 → Int32 → Int32 → Int32 → Int32 → OW → Nat → RO} {s t L j nv D X : Nat} {l2 : Int32} {q : (Nat → Nat) × Nat} (h : TI S0 S s q X) (hs : s < 10) (ht : t ≤ 60) (hL : L < 1000) (hj : j < 3) (h19 : zF S0 218 19 = nI nv) (hn : nv ≤ 60) (hr : zA S0 230 t = nI (D * (3 * X))) (hb : D * (3 * X) < 2 ^ 31) : ∃ S', B_X11_laysSlot_96 Θ K36 K96 (gb Θ + 218) (nI s) l2 (nI t) (nI L) (nI j) (laz Θ S ω) n = K96 (gb Θ + 218) (nI s) l2 (nI t) (nI L) (nI (j + 1)) (laz Θ S' ω) n ∧ TI S0 S' s (jo1 nv (L + j) D q) X := by
  obtain ⟨x1, x2, x3, x4, x5, x6⟩ := h
  have ed : nI (D * (3 * X)) / 3 = nI (D * X) := by
    rw [show (3 : Int32) = nI 3 from rfl, nI_div hb (by decide), show D * (3 * X) = 3 * (D * X) by rw [← Nat.mul_assoc, Nat.mul_comm D 3, Nat.mul_assoc], Nat.mul_div_cancel_left _ (by omega)]
  unfold B_X11_laysSlot_96 J_X11_laysSlot_155
  rw [if_neg (show ¬ (3 : Int32) ≤ nI j from nI_ge (b := 3) hj (by omega)), a218_19, x2 19 (by omega) (by omega), h19, nI_add, nI_1]
  unfold jo1
  by_cases z : L + j ≤ nv
  · rw [if_pos (nI_le z (by omega)), if_pos z, a218_34, l_231 (by omega), a218_33, l_230 (by omega), x3, hr, ed, s_231 (by omega)]
    refine ⟨_, rfl, x1.nA (by omega), x2, x3, x4, fun u hu => ?_, x6⟩
    rw [zA_eq]
    show upd (zA S 231) (L + j) _ u = nI (adN q.1 (L + j) D u * X)
    by_cases y : u = L + j
    · subst y
      rw [upd_same, adN_at, Nat.add_mul, ← nI_add, x5 _ hu]
    · rw [upd_ne _ _ y, adN_ne _ _ y, x5 u hu]
  · rw [if_neg (nI_ge (by omega) (by omega)), if_neg z, a218_35, l_232 hs, a218_33, l_230 (by omega), x3, hr, ed, s_232 hs]
    refine ⟨_, rfl, x1.nA (by omega), x2, x3, fun u hu => ?_, fun u hu => ?_, ?_⟩
    · rw [zA_eq, upd_ne _ _ hu]; exact x4 u hu
    · rw [zA_ne _ _ (by decide)]; exact x5 u hu
    · rw [zA_eq, upd_same, x6]
      show _ = nI ((q.2 + D) * X)
      rw [Nat.add_mul, ← nI_add]
theorem m_jolts {K36 : Nat → Int32 → Int32 → Int32 → OW → Nat → RO} {s t L nv D X : Nat} {l2 : Int32} {q : (Nat → Nat) × Nat} (h : TI S0 S s q X) (hs : s < 10) (ht : t ≤ 60) (hL : L < 1000) (h19 : zF S0 218 19 = nI nv) (hn : nv ≤ 60) (hr : zA S0 230 t = nI (D * (3 * X))) (hb : D * (3 * X) < 2 ^ 31) : ∃ S', L_X11_laysSlot_96 Θ K36 5000 (gb Θ + 218) (nI s) l2 (nI t) (nI L) 0 (laz Θ S ω) n = K36 (gb Θ + 218) (nI s) l2 (nI (t + 1)) (laz Θ S' ω) n ∧ TI S0 S' s (jo3 nv L D q) X := by
  obtain ⟨S1, e1, t1⟩ := m_jolt (Θ := Θ) (ω := ω) (n := n) (K36 := K36) (K96 := L_X11_laysSlot_96 Θ K36 4999) (l2 := l2) (j := 0) h hs ht hL (by omega) h19 hn hr hb
  obtain ⟨S2, e2, t2⟩ := m_jolt (Θ := Θ) (ω := ω) (n := n) (K36 := K36) (K96 := L_X11_laysSlot_96 Θ K36 4998) (l2 := l2) (j := 1) t1 hs ht hL (by omega) h19 hn hr hb
  obtain ⟨S3, e3, t3⟩ := m_jolt (Θ := Θ) (ω := ω) (n := n) (K36 := K36) (K96 := L_X11_laysSlot_96 Θ K36 4997) (l2 := l2) (j := 2) t2 hs ht hL (by omega) h19 hn hr hb
  refine ⟨S3, ?_, t3⟩
  have e1 : L_X11_laysSlot_96 Θ K36 5000 (gb Θ + 218) (nI s) l2 (nI t) (nI L) 0 (laz Θ S ω) n = L_X11_laysSlot_96 Θ K36 4999 (gb Θ + 218) (nI s) l2 (nI t) (nI L) (nI (0 + 1)) (laz Θ S1 ω) n := e1
  have e2 : L_X11_laysSlot_96 Θ K36 4999 (gb Θ + 218) (nI s) l2 (nI t) (nI L) (nI (0 + 1)) (laz Θ S1 ω) n = L_X11_laysSlot_96 Θ K36 4998 (gb Θ + 218) (nI s) l2 (nI t) (nI L) (nI (1 + 1)) (laz Θ S2 ω) n := e2
  have e3 : L_X11_laysSlot_96 Θ K36 4998 (gb Θ + 218) (nI s) l2 (nI t) (nI L) (nI (1 + 1)) (laz Θ S2 ω) n = L_X11_laysSlot_96 Θ K36 4997 (gb Θ + 218) (nI s) l2 (nI t) (nI L) (nI (2 + 1)) (laz Θ S3 ω) n := e3
  rw [e1, e2, e3]
  show B_X11_laysSlot_96 Θ K36 (L_X11_laysSlot_96 Θ K36 4996) (gb Θ + 218) (nI s) l2 (nI t) (nI L) (nI 3) (laz Θ S3 ω) n = _
  unfold B_X11_laysSlot_96 J_X11_laysSlot_161
  rw [if_pos (show (3 : Int32) ≤ nI 3 from nI_le (a := 3) (by omega) (by omega)), nI_1]
/-- a slot with a prop -/
theorem m_spread {s nv X p : Nat} {c : RPar} {D : Nat → Nat} (hs : s < 10) (hp : p < 8) (hw : zA S0 219 = w) (hM : LawM w c.2.1) (h18 : zF S0 218 18 = c.2.2.2.2.2.2.1) (h19c : zF S0 218 19 = c.2.2.2.2.1) (h20 : zF S0 218 20 = c.2.2.2.2.2.1) (hfc : ∀ t, t ≤ 60 → FB (fcS w p (nI t) c.2.2.2.2.1 c.2.2.2.2.2.1 c.2.2.2.2.2.2.1)) (hfr : ∀ t, t ≤ 60 → frS c.2.1 (fcS w p (nI t) c.2.2.2.2.1 c.2.2.2.2.2.1 c.2.2.2.2.2.2.1) = nI (frN c s t) ∧ frN c s t ≤ 380) (h19 : zF S0 218 19 = nI nv) (hn : nv ≤ 60) (hX : 0 < X) (hr : ∀ t, t ≤ 60 → zA S0 230 t = nI (D t * (3 * X)) ∧ D t * (3 * X) < 2 ^ 31) : ∀ (m t f : Nat) (S : PZ), t + m = nv + 1 → m < f → TI S0 S s (spR (frN c s) nv D t) X → ∃ S', L_X11_laysSlot_36 Θ f (gb Θ + 218) (nI s) (nI p) (nI t) (laz Θ S ω) n = L_X11_laysSlot_169 Θ 5000 (gb Θ + 218) 0 (laz Θ S' ω) n ∧ TI S0 S' s (spR (frN c s) nv D (nv + 1)) X := by
  intro m
  induction m with
  | zero =>
    intro t f S h1 h2 h
    obtain ⟨f, rfl⟩ : ∃ g, f = g + 1 := ⟨f - 1, by omega⟩
    have ht : t = nv + 1 := by omega
    subst ht
    refine ⟨S, ?_, h⟩
    unfold L_X11_laysSlot_36 B_X11_laysSlot_36
    rw [a218_19, h.2.1 19 (by omega) (by omega), h19, if_pos (nI_lt (by omega) (by omega))]
  | succ m ih =>
    intro t f S h1 h2 h
    obtain ⟨f, rfl⟩ : ∃ g, f = g + 1 := ⟨f - 1, by omega⟩
    have ht : t ≤ 60 := by omega
    rw [show L_X11_laysSlot_36 Θ (f + 1) (gb Θ + 218) (nI s) (nI p) (nI t) (laz Θ S ω) n = B_X11_laysSlot_36 Θ (L_X11_laysSlot_36 Θ f) (gb Θ + 218) (nI s) (nI p) (nI t) (laz Θ S ω) n from rfl]
    unfold B_X11_laysSlot_36 J_X11_laysSlot_161
    rw [a218_19, h.2.1 19 (by omega) (by omega), h19, if_neg (nI_nlt (by omega) (by omega)), a218_33, l_230 (by omega), h.2.2.1, (hr t ht).1, nI_1]
    by_cases z : D t * (3 * X) = 0
    · have hd : D t = 0 := by
        rcases Nat.mul_eq_zero.mp z with y | y
        · exact y
        · omega
      rw [z, if_pos (show nI 0 = 0 from rfl)]
      refine ih (t + 1) f S (by omega) (by omega) ?_
      show TI S0 S s (jo3 nv (t + frN c s t) (D t) (spR (frN c s) nv D t)) X
      rw [hd, jo3_0]
      exact h
    · rw [if_neg (nI_ne0 (by omega) (hr t ht).2), if_neg (show ¬ nI p = -1 by rw [q_m1 (by omega)]; exact id), d218]
      have w1 : zA S 219 = w := (h.1.2.1 219 (by decide) (by decide) (by decide) (by decide)).trans hw
      obtain ⟨v', e⟩ := m_frightsBy (Θ := Θ) (S := S) (ω := ω) (n := n) (p := p) (t := nI t) (nv := c.2.2.2.2.1) (kn := c.2.2.2.2.2.1) (dd := c.2.2.2.2.2.2.1) (lw := c.2.1) hp ((h.2.1 19 (by omega) (by omega)).trans h19c) ((h.2.1 20 (by omega) (by omega)).trans h20) ((h.2.1 18 (by omega) (by omega)).trans h18) (by rw [w1]; exact hM) (by rw [w1]; exact hfc t ht)
      rw [w1, (hfr t ht).1] at e
      have h' : TI S0 (uA (uF (uF S 218 21 (nI p)) 218 22 (nI t)) 226 v') s (spR (frN c s) nv D t) X := by
        obtain ⟨x1, x2, x3, x4, x5, x6⟩ := h
        refine ⟨((x1.nF (by omega)).nF (by omega)).nA (by omega), fun j h1 h2 => ?_, x3, x4, x5, x6⟩
        rw [zF_uA, zF_ne _ _ (by omega), zF_ne _ _ (by omega)]; exact x2 j h1 h2
      obtain ⟨S1, e1, t1⟩ := m_jolts (Θ := Θ) (ω := ω) (n := n) (K36 := L_X11_laysSlot_36 Θ f) (l2 := nI p) (L := t + frN c s t) h' hs ht (by have := (hfr t ht).2; omega) h19 hn (hr t ht).1 (hr t ht).2
      rw [e, kI_v, nI_add, e1]
      exact ih (t + 1) f S1 (by omega) (by omega) t1
/-- a slot without a prop -/
theorem m_ease {s nv X cm : Nat} {D : Nat → Nat} (hw : zA S0 219 = w) (h5 : w 5 = nI cm) (hc : cm ≤ 9) (h19 : zF S0 218 19 = nI nv) (hn : nv ≤ 60) (hr : ∀ t, t ≤ 60 → zA S0 230 t = nI (D t * X) ∧ D t * X < 2 ^ 31) (hX : 0 < X) : ∀ (m t f : Nat) (S : PZ), t + m = nv + 1 → m < f → TI S0 S s (eaR cm D t, 0) X → ∃ S', L_X11_laysSlot_36 Θ f (gb Θ + 218) (nI s) (-1) (nI t) (laz Θ S ω) n = L_X11_laysSlot_169 Θ 5000 (gb Θ + 218) 0 (laz Θ S' ω) n ∧ TI S0 S' s (eaR cm D (nv + 1), 0) X := by
  intro m
  induction m with
  | zero =>
    intro t f S h1 h2 h
    obtain ⟨f, rfl⟩ : ∃ g, f = g + 1 := ⟨f - 1, by omega⟩
    have ht : t = nv + 1 := by omega
    subst ht
    refine ⟨S, ?_, h⟩
    unfold L_X11_laysSlot_36 B_X11_laysSlot_36
    rw [a218_19, h.2.1 19 (by omega) (by omega), h19, if_pos (nI_lt (by omega) (by omega))]
  | succ m ih =>
    intro t f S h1 h2 h
    obtain ⟨f, rfl⟩ : ∃ g, f = g + 1 := ⟨f - 1, by omega⟩
    have ht : t ≤ 60 := by omega
    rw [show L_X11_laysSlot_36 Θ (f + 1) (gb Θ + 218) (nI s) (-1) (nI t) (laz Θ S ω) n = B_X11_laysSlot_36 Θ (L_X11_laysSlot_36 Θ f) (gb Θ + 218) (nI s) (-1) (nI t) (laz Θ S ω) n from rfl]
    unfold B_X11_laysSlot_36 J_X11_laysSlot_161
    rw [a218_19, h.2.1 19 (by omega) (by omega), h19, if_neg (nI_nlt (by omega) (by omega)), a218_33, l_230 (by omega), h.2.2.1, (hr t ht).1, nI_1]
    by_cases z : D t * X = 0
    · have hd : D t = 0 := by
        rcases Nat.mul_eq_zero.mp z with y | y
        · exact y
        · omega
      rw [z, if_pos (show nI 0 = 0 from rfl)]
      refine ih (t + 1) f S (by omega) (by omega) ?_
      show TI S0 S s (adN (eaR cm D t) (t - cm) (D t), 0) X
      rw [hd, adN_0]
      exact h
    · have w1 : zA S 219 5 = nI cm := by rw [h.1.2.1 219 (by decide) (by decide) (by decide) (by decide), hw, h5]
      rw [if_neg (nI_ne0 (by omega) (hr t ht).2), if_pos rfl, a218_34, d218, m_calmer, kI_v, w1, cmx_nat (by omega) (by omega), l_231 (by omega), a218_33, l_230 (by omega), h.2.2.1, (hr t ht).1, s_231 (by omega)]
      refine ih (t + 1) f _ (by omega) (by omega) ?_
      obtain ⟨x1, x2, x3, x4, x5, x6⟩ := h
      refine ⟨x1.nA (by omega), x2, x3, x4, fun u hu => ?_, x6⟩
      rw [zA_eq]
      show upd (zA S 231) (t - cm) _ u = nI (adN (eaR cm D t) (t - cm) (D t) u * X)
      by_cases y : u = t - cm
      · subst y
        rw [upd_same, adN_at, Nat.add_mul, ← nI_add, x5 _ hu]
      · rw [upd_ne _ _ y, adN_ne _ _ y, x5 u hu]
theorem m_zero_L {l1 l2 : Int32} : ∀ (m t f : Nat) (g0 : Nat → Int32), t + m = 61 → m < f → ∃ g, L_X11_laysSlot_15 Θ f (gb Θ + 218) l1 l2 (nI t) (laz Θ (uA S 231 g0) ω) n = L_X11_laysSlot_36 Θ 5000 (gb Θ + 218) l1 l2 0 (laz Θ (uA S 231 g) ω) n ∧ ∀ u, u ≤ 60 → g u = if u < t then g0 u else 0 := by
  intro m
  induction m with
  | zero =>
    intro t f g0 h1 h2
    obtain ⟨f, rfl⟩ : ∃ g, f = g + 1 := ⟨f - 1, by omega⟩
    refine ⟨g0, ?_, fun u hu => by rw [if_pos (by omega)]⟩
    unfold L_X11_laysSlot_15 B_X11_laysSlot_15
    rw [if_pos (show (60 : Int32) < nI t from nI_lt (a := 60) (by omega) (by omega))]
  | succ m ih =>
    intro t f g0 h1 h2
    obtain ⟨f, rfl⟩ : ∃ g, f = g + 1 := ⟨f - 1, by omega⟩
    obtain ⟨g, e, hg⟩ := ih (t + 1) f (upd g0 t 0) (by omega) (by omega)
    refine ⟨g, ?_, fun u hu => ?_⟩
    · rw [show L_X11_laysSlot_15 Θ (f + 1) (gb Θ + 218) l1 l2 (nI t) (laz Θ (uA S 231 g0) ω) n = B_X11_laysSlot_15 Θ (L_X11_laysSlot_15 Θ f) (gb Θ + 218) l1 l2 (nI t) (laz Θ (uA S 231 g0) ω) n from rfl]
      unfold B_X11_laysSlot_15
      rw [if_neg (show ¬ (60 : Int32) < nI t from nI_nlt (a := 60) (by omega) (by omega)), a218_34, s_231 (by omega), uA_uA, zA_eq, nI_1, e]
    · rw [hg u hu]
      by_cases z : u = t
      · subst z; rw [if_pos (by omega), if_neg (by omega), upd_same]
      · by_cases y : u < t
        · rw [if_pos (by omega), if_pos y, upd_ne _ _ z]
        · rw [if_neg (by omega), if_neg y]
theorem m_copy_L : ∀ (m t f : Nat) (g0 : Nat → Int32), t + m = 61 → m < f → ∃ g, L_X11_laysSlot_169 Θ f (gb Θ + 218) (nI t) (laz Θ (uA S 230 g0) ω) n = some (.inl (none, laz Θ (uA S 230 g) ω, n)) ∧ ∀ u, u ≤ 60 → g u = if u < t then g0 u else zA S 231 u := by
  intro m
  induction m with
  | zero =>
    intro t f g0 h1 h2
    obtain ⟨f, rfl⟩ : ∃ g, f = g + 1 := ⟨f - 1, by omega⟩
    refine ⟨g0, ?_, fun u hu => by rw [if_pos (by omega)]⟩
    unfold L_X11_laysSlot_169 B_X11_laysSlot_169
    rw [if_pos (show (60 : Int32) < nI t from nI_lt (a := 60) (by omega) (by omega))]
  | succ m ih =>
    intro t f g0 h1 h2
    obtain ⟨f, rfl⟩ : ∃ g, f = g + 1 := ⟨f - 1, by omega⟩
    obtain ⟨g, e, hg⟩ := ih (t + 1) f (upd g0 t (zA S 231 t)) (by omega) (by omega)
    refine ⟨g, ?_, fun u hu => ?_⟩
    · rw [show L_X11_laysSlot_169 Θ (f + 1) (gb Θ + 218) (nI t) (laz Θ (uA S 230 g0) ω) n = B_X11_laysSlot_169 Θ (L_X11_laysSlot_169 Θ f) (gb Θ + 218) (nI t) (laz Θ (uA S 230 g0) ω) n from rfl]
      unfold B_X11_laysSlot_169
      rw [if_neg (show ¬ (60 : Int32) < nI t from nI_nlt (a := 60) (by omega) (by omega)), a218_33, a218_34, l_231 (by omega), zA_ne _ _ (show 231 ≠ 230 by decide), s_230 (by omega), uA_uA, zA_eq, nI_1, e]
    · rw [hg u hu]
      by_cases z : u = t
      · subst z; rw [if_pos (by omega), if_neg (by omega), upd_same]
      · by_cases y : u < t
        · rw [if_pos (by omega), if_pos y, upd_ne _ _ z]
        · rw [if_neg (by omega), if_neg y]
/-- all of a slot -/
theorem m_laysSlot {s : Nat} (hs : s < 10) (hw : zA S 219 = w) (hW : WB w) (hM : LawM w lw) (ha : a < 6) (h18 : zF S 218 18 = w (4 * a + 41)) (h19 : zF S 218 19 = w (4 * a + 42)) (h20 : zF S 218 20 = w (4 * a + 43)) (hr : ∀ t, t ≤ 60 → zA S 230 t = nI (wyD (cPar w lw a false false) s t * 3 ^ (npS (cPar w lw a false false) ten - npS (cPar w lw a false false) s))) : ∃ S', F_X11_laysSlot Θ (gb Θ + 218) (nI s) (laz Θ S ω) n = some (.inl (none, laz Θ S' ω, n)) ∧ XY S S' ∧ (∀ j, j ≠ 21 → j ≠ 22 → zF S' 218 j = zF S 218 j) ∧ (∀ u, u ≠ s → zA S' 232 u = zA S 232 u) ∧ zA S' 232 s = nI (wyA (cPar w lw a false false) s) ∧ ∀ t, t ≤ 60 → zA S' 230 t = nI (wyD (cPar w lw a false false) (s + 1) t * 3 ^ (npS (cPar w lw a false false) ten - npS (cPar w lw a false false) (s + 1))) := by
  have hO := cPar_ok hW hM ha false false
  have hP8 := hW.P8
  have hnv := hO.nv
  have hcm := hO.cm
  have hN : npS (cPar w lw a false false) ten ≤ 8 := by
    have e := cnl_np hW (c := cPar w lw a false false) (fun s _ => rfl)
    rw [ten_eq, ← e]
    have : ∀ k, cnl w k ≤ k := by
      intro k
      induction k with
      | zero => exact Nat.le_refl _
      | succ k ih =>
        show cnl w k + (if w (4 * k + 12) = -1 then 0 else 1) ≤ _
        split <;> omega
    have := this (cP w)
    omega
  have hbig : 3 ^ npS (cPar w lw a false false) ten ≤ 3 ^ 8 := Nat.pow_le_pow_right (by omega) hN
  have hle := fun u => wyD_le (c := cPar w lw a false false) hnv.2 (s := s) (by omega) u
  have hm := npS_mono (cPar w lw a false false) (s + 1) (10 - (s + 1))
  rw [show s + 1 + (10 - (s + 1)) = 10 by omega] at hm
  have hm : npS (cPar w lw a false false) (s + 1) ≤ npS (cPar w lw a false false) ten := by rw [ten_eq]; exact hm
  have h19' : zF S 218 19 = nI (nvN (cPar w lw a false false)) := h19.trans hnv.1
  unfold F_X11_laysSlot
  rw [d218, m_propIn' hw hW, kI_v, a218_35, s_232 hs]
  obtain ⟨g, e1, hg⟩ := m_zero_L (Θ := Θ) (S := uA S 232 (upd (zA S 232) s 0)) (ω := ω) (n := n) (l1 := nI s) (l2 := pin w (nI s)) 61 0 5000 (zA (uA S 232 (upd (zA S 232) s 0)) 231) (by omega) (by omega)
  rw [uA_self] at e1
  have e1 : L_X11_laysSlot_15 Θ 5000 (gb Θ + 218) (nI s) (pin w (nI s)) 0 (laz Θ (uA S 232 (upd (zA S 232) s 0)) ω) n = _ := e1
  rw [e1]
  have fin : ∀ (T : PZ) (q : (Nat → Nat) × Nat) (X : Nat), TI S T s q X → (∀ u, u ≤ 60 → q.1 u = wyD (cPar w lw a false false) (s + 1) u) → q.2 = wyE (cPar w lw a false false) s → X = 3 ^ (npS (cPar w lw a false false) ten - npS (cPar w lw a false false) (s + 1)) → ∃ S', L_X11_laysSlot_169 Θ 5000 (gb Θ + 218) 0 (laz Θ T ω) n = some (.inl (none, laz Θ S' ω, n)) ∧ XY S S' ∧ (∀ j, j ≠ 21 → j ≠ 22 → zF S' 218 j = zF S 218 j) ∧ (∀ u, u ≠ s → zA S' 232 u = zA S 232 u) ∧ zA S' 232 s = nI (wyA (cPar w lw a false false) s) ∧ ∀ t, t ≤ 60 → zA S' 230 t = nI (wyD (cPar w lw a false false) (s + 1) t * 3 ^ (npS (cPar w lw a false false) ten - npS (cPar w lw a false false) (s + 1))) := by
    intro T q X hT hq1 hq2 hX
    subst hX
    obtain ⟨x1, x2, x3, x4, x5, x6⟩ := hT
    obtain ⟨g', e2, hg'⟩ := m_copy_L (Θ := Θ) (S := T) (ω := ω) (n := n) 61 0 5000 (zA T 230) (by omega) (by omega)
    rw [uA_self] at e2
    have e2 : L_X11_laysSlot_169 Θ 5000 (gb Θ + 218) 0 (laz Θ T ω) n = _ := e2
    refine ⟨uA T 230 g', e2, x1.nA (by omega), x2, x4, ?_, fun t ht => ?_⟩
    · rw [zA_ne _ _ (by decide), x6, hq2]; rfl
    · rw [zA_eq, hg' t ht, if_neg (by omega), x5 t ht, hq1 t ht]
  have h0 : ∀ X, TI S (uA (uA S 232 (upd (zA S 232) s 0)) 231 g) s (fun _ => 0, 0) X := by
    intro X
    refine ⟨((XY.rf S).nA (by omega)).nA (by omega), fun _ _ _ => rfl, rfl, fun u hu => ?_, fun u hu => ?_, ?_⟩
    · rw [zA_ne _ _ (by decide), zA_eq, upd_ne _ _ hu]
    · rw [zA_eq, hg u hu, if_neg (by omega), Nat.zero_mul]; rfl
    · rw [zA_ne _ _ (by decide), zA_eq, upd_same, Nat.zero_mul]; rfl
  rcases pin_cases w (nI s) with ⟨z, _⟩ | ⟨p, p1, p2, p3⟩
  · have ez : (cPar w lw a false false).2.2.1 s = -1 := z
    have en : npS (cPar w lw a false false) (s + 1) = npS (cPar w lw a false false) s := by show npS _ s + _ = _; rw [if_pos ez]; rfl
    obtain ⟨S1, e2, t2⟩ := m_ease (Θ := Θ) (S0 := S) (ω := ω) (n := n) (w := w) (s := s) (nv := nvN (cPar w lw a false false)) (X := 3 ^ (npS (cPar w lw a false false) ten - npS (cPar w lw a false false) s)) (cm := cmN (cPar w lw a false false)) (D := wyD (cPar w lw a false false) s) hw hcm.1 hcm.2 h19' hnv.2 (fun t ht => ⟨hr t ht, by have := hle t; omega⟩) (Nat.pow_pos (by omega)) (nvN (cPar w lw a false false) + 1) 0 5000 _ (by omega) (by omega) (h0 _)
    rw [z]
    have e2 : L_X11_laysSlot_36 Θ 5000 (gb Θ + 218) (nI s) (-1) 0 (laz Θ (uA (uA S 232 (upd (zA S 232) s 0)) 231 g) ω) n = _ := e2
    rw [e2]
    refine fin S1 _ _ t2 (fun u hu => ?_) ?_ (by rw [en])
    · show eaR _ _ (nvN (cPar w lw a false false) + 1) u = wyD (cPar w lw a false false) (s + 1) u
      have e3 : wyD (cPar w lw a false false) (s + 1) = eaR (cmN (cPar w lw a false false)) (wyD (cPar w lw a false false) s) 61 := if_pos ez
      have e4 := eaR_stop (c := cmN (cPar w lw a false false)) (d := wyD (cPar w lw a false false) s) (k := nvN (cPar w lw a false false) + 1) (60 - nvN (cPar w lw a false false)) (fun t h1 _ => wyD_nv s t (by omega))
      rw [show nvN (cPar w lw a false false) + 1 + (60 - nvN (cPar w lw a false false)) = 61 by omega] at e4
      rw [e3, e4]
    · exact (if_pos ez).symm
  · have hn : (cPar w lw a false false).2.2.1 s ≠ -1 := by show pin w (nI s) ≠ -1; rw [p2]; exact fun y => (q_m1 (by omega)).mp y
    have er : rpr (cPar w lw a false false) s = p := by unfold rpr; show (pin w (nI s)).toNatClampNeg = p; rw [p2]; exact nI_clamp (by omega)
    have en : npS (cPar w lw a false false) (s + 1) = npS (cPar w lw a false false) s + 1 := by show npS _ s + _ = _; rw [if_neg hn]
    have ex : 3 ^ (npS (cPar w lw a false false) ten - npS (cPar w lw a false false) s) = 3 * 3 ^ (npS (cPar w lw a false false) ten - npS (cPar w lw a false false) (s + 1)) := by
      rw [en, show npS (cPar w lw a false false) ten - npS (cPar w lw a false false) s = (npS (cPar w lw a false false) ten - (npS (cPar w lw a false false) s + 1)) + 1 by omega, Nat.pow_succ, Nat.mul_comm]
    rw [ex] at hr hle
    have hfc : ∀ t, t ≤ 60 → FB (fcS w p (nI t) (cPar w lw a false false).2.2.2.2.1 (cPar w lw a false false).2.2.2.2.2.1 (cPar w lw a false false).2.2.2.2.2.2.1) := by
      intro t ht
      have := rfc_fb hO hs hn (t := nI t) ⟨t, by omega, rfl⟩
      unfold rfc at this
      rw [er] at this
      exact this
    have hfr : ∀ t, t ≤ 60 → frS (cPar w lw a false false).2.1 (fcS w p (nI t) (cPar w lw a false false).2.2.2.2.1 (cPar w lw a false false).2.2.2.2.2.1 (cPar w lw a false false).2.2.2.2.2.2.1) = nI (frN (cPar w lw a false false) s t) ∧ frN (cPar w lw a false false) s t ≤ 380 := by
      intro t ht
      have h1 := hO.fr hs hn t
      refine ⟨?_, h1.2⟩
      rw [← h1.1]
      unfold rfr rfc
      rw [er]
      rfl
    obtain ⟨S1, e2, t2⟩ := m_spread (Θ := Θ) (S0 := S) (ω := ω) (n := n) (w := w) (s := s) (nv := nvN (cPar w lw a false false)) (X := 3 ^ (npS (cPar w lw a false false) ten - npS (cPar w lw a false false) (s + 1))) (p := p) (c := cPar w lw a false false) (D := wyD (cPar w lw a false false) s) hs (by omega) hw hM h18 h19 h20 hfc hfr h19' hnv.2 (Nat.pow_pos (by omega)) (fun t ht => ⟨hr t ht, by have := hle t; omega⟩) (nvN (cPar w lw a false false) + 1) 0 5000 _ (by omega) (by omega) (h0 _)
    rw [p2]
    have e2 : L_X11_laysSlot_36 Θ 5000 (gb Θ + 218) (nI s) (nI p) 0 (laz Θ (uA (uA S 232 (upd (zA S 232) s 0)) 231 g) ω) n = _ := e2
    rw [e2]
    have e4 := spR_stop (fr := frN (cPar w lw a false false) s) (nv := nvN (cPar w lw a false false)) (d := wyD (cPar w lw a false false) s) (k := nvN (cPar w lw a false false) + 1) (60 - nvN (cPar w lw a false false)) (fun t h1 _ => wyD_nv s t (by omega))
    rw [show nvN (cPar w lw a false false) + 1 + (60 - nvN (cPar w lw a false false)) = 61 by omega] at e4
    refine fin S1 _ _ t2 (fun u hu => ?_) ?_ rfl
    · have e3 : wyD (cPar w lw a false false) (s + 1) = (spR (frN (cPar w lw a false false) s) (nvN (cPar w lw a false false)) (wyD (cPar w lw a false false) s) 61).1 := if_neg hn
      rw [e3, e4]
    · have e3 : wyE (cPar w lw a false false) s = (spR (frN (cPar w lw a false false) s) (nvN (cPar w lw a false false)) (wyD (cPar w lw a false false) s) 61).2 := if_neg hn
      rw [e3, e4]
end WM
