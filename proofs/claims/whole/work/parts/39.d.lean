/-! ways: the class's side, a slot -/
/-- S' is as S but for what the class writes in a slot of counting ways -/
def XJ (S S' : PZ) : Prop := (∀ k j, zF S' k j = zF S k j) ∧ (∀ k, k ≠ 207 → k ≠ 216 → k ≠ 217 → zA S' k = zA S k) ∧ (∀ k j, zR S' k j = zR S k j) ∧ (∀ k, zL S' k = zL S k)
theorem XJ.rf (S : PZ) : XJ S S := ⟨fun _ _ => rfl, fun _ _ _ _ => rfl, fun _ _ => rfl, fun _ => rfl⟩
theorem XJ.trans {S S' S'' : PZ} (h : XJ S S') (g : XJ S' S'') : XJ S S'' := ⟨fun k j => (g.1 k j).trans (h.1 k j), fun k a b c => (g.2.1 k a b c).trans (h.2.1 k a b c), fun k j => (g.2.2.1 k j).trans (h.2.2.1 k j), fun k => (g.2.2.2 k).trans (h.2.2.2 k)⟩
theorem XJ.nA {S S' : PZ} (h : XJ S S') {k : Nat} {f : Nat → Int32} (q : k = 207 ∨ k = 216 ∨ k = 217) : XJ S (uA S' k f) := ⟨h.1, fun a x y z => by rw [zA_ne _ _ (by omega), h.2.1 a x y z], h.2.2.1, h.2.2.2⟩
/-- the two rows: here, then -/
def isH (h t : Nat) : Prop := (h = 216 ∧ t = 217) ∨ (h = 217 ∧ t = 216)
theorem isH.kd {h t : Nat} (e : isH h t) : kdz h = 20 ∧ kdz t = 20 ∧ alz h = 61 ∧ alz t = 61 ∧ h ≠ t ∧ (h = 216 ∨ h = 217) ∧ (t = 216 ∨ t = 217) := by
  rcases e with ⟨rfl, rfl⟩ | ⟨rfl, rfl⟩ <;> decide
def zHT (Θ : GP) (S : PZ) (h t : Nat) : Prop := isH h t ∧ zR S 214 4 = gb Θ + h ∧ zR S 214 5 = gb Θ + t
section WX
variable {Θ : GP} {S S0 : PZ} {ω : OW} {n : Nat} {c : RPar} {h t : Nat}
theorem zHT.xj (e : zHT Θ S0 h t) (x : XJ S0 S) : zHT Θ S h t := ⟨e.1, by rw [x.2.2.1]; exact e.2.1, by rw [x.2.2.1]; exact e.2.2⟩
theorem RX.xj (r : RX Θ S0 ω 202 c) (x : XJ S0 S) : RX Θ S ω 202 c := by
  obtain ⟨h1, h2, h3, h4, h5, h6, h7, h8, h9⟩ := r
  obtain ⟨x1, x2, x3, x4⟩ := x
  refine ⟨h1, by rw [x3]; exact h2, by rw [x1]; exact h3, ?_, ?_, by rw [x1]; exact h6, by rw [x1]; exact h7, by rw [x1]; exact h8, by rw [x1]; exact h9⟩
  · rw [x2 15 (by omega) (by omega) (by omega), x2 16 (by omega) (by omega) (by omega), x2 (202 + 2) (by omega) (by omega) (by omega)]; exact h4
  · rw [x2 (202 + 1) (by omega) (by omega) (by omega)]; exact h5
/-- a slot without a prop, in place -/
theorem x_ease_L (e : zHT Θ S h t) {cm top : Nat} {D : Nat → Nat} (hc : 0 < cm) (hc9 : cm ≤ 9) (h60 : top ≤ 60) (h3 : zF S 214 3 = nI top) : ∀ (m k f : Nat) (g : Nat → Int32), k + m = top + 1 → 1 ≤ k → m < f → (∀ u, u ≤ 60 → g u = nI (if u < k then eaR cm D k u else D u)) → ∃ g', L_X9_ease_10 Θ f (gb Θ + 214) (nI cm) (nI k) (laz Θ (uA S h g) ω) n = some (.inl (none, laz Θ (uF (uA S h g') 214 3 (nI (top - cm))) ω, n)) ∧ ∀ u, u ≤ 60 → g' u = nI (if u < top + 1 then eaR cm D (top + 1) u else D u) := by
  obtain ⟨k1, k2, k3, k4, k5, k6, k7⟩ := e.1.kd
  have ecm : ∀ k, k ≤ 60 → (if 0 < nI k - nI cm then nI k - nI cm else 0) = nI (k - cm) := fun k hk => cmx_nat (by omega) (by omega)
  intro m
  induction m with
  | zero =>
    intro k f g h1 h2 hf hg
    obtain ⟨f, rfl⟩ : ∃ g, f = g + 1 := ⟨f - 1, by omega⟩
    have hk : k = top + 1 := by omega
    subst hk
    refine ⟨g, ?_, hg⟩
    unfold L_X9_ease_10 B_X9_ease_10 J_X9_ease_58
    rw [a214_3, zF_uA, h3, if_pos (nI_lt (by omega) (by omega)), a214_3, zF_uA, h3, ecm top h60, b214_3]
  | succ m ih =>
    intro k f g h1 h2 hf hg
    obtain ⟨f, rfl⟩ : ∃ g, f = g + 1 := ⟨f - 1, by omega⟩
    have hk : k ≤ 60 := by omega
    have gk : g k = nI (D k) := by rw [hg k hk, if_neg (by omega)]
    have gi : upd g k 0 (k - cm) = nI (eaR cm D k (k - cm)) := by rw [upd_ne _ _ (by omega), hg _ (by omega), if_pos (by omega)]
    obtain ⟨g', e1, hg'⟩ := ih (k + 1) f (upd (upd g k 0) (k - cm) (nI (eaR cm D k (k - cm)) + nI (D k))) (by omega) (by omega) (by omega) (fun u hu => by
      show upd (upd g k 0) (k - cm) _ u = nI (if u < k + 1 then adN (eaR cm D k) (k - cm) (D k) u else D u)
      by_cases z : u = k - cm
      · subst z; rw [upd_same, if_pos (by omega), adN_at, nI_add]
      · rw [upd_ne _ _ z, adN_ne _ _ z]
        by_cases y : u = k
        · subst y; rw [upd_same, if_pos (by omega), eaR_big u u (Nat.le_refl _) (by omega) (Or.inl hc)]; rfl
        · rw [upd_ne _ _ y, hg u hu]
          by_cases v : u < k
          · rw [if_pos v, if_pos (by omega)]
          · rw [if_neg v, if_neg (by omega)])
    refine ⟨g', ?_, hg'⟩
    rw [show L_X9_ease_10 Θ (f + 1) (gb Θ + 214) (nI cm) (nI k) (laz Θ (uA S h g) ω) n = B_X9_ease_10 Θ (L_X9_ease_10 Θ f) (gb Θ + 214) (nI cm) (nI k) (laz Θ (uA S h g) ω) n from rfl]
    unfold B_X9_ease_10
    rw [a214_3, zF_uA, h3, if_neg (nI_nlt (by omega) (by omega)), if_neg (nI_nle (by omega) (by omega)), a214_4, zR_uA, e.2.1, z_lI k1 (by omega) (by omega), zA_eq, gk, a214_4, zR_uA, e.2.1, z_sI k1 (by omega) (by omega), uA_uA, zA_eq, a214_4, zR_uA, e.2.1, ecm k hk, z_lI k1 (by omega) (by omega), zA_eq, gi, z_sI k1 (by omega) (by omega), uA_uA, zA_eq, nI_1, e1]
/-- S' is as S but for what the class writes in counting ways -/
def XG (S S' : PZ) : Prop := (∀ k j, k ≠ 214 → zF S' k j = zF S k j) ∧ (∀ k, k ≠ 207 → k ≠ 215 → k ≠ 216 → k ≠ 217 → zA S' k = zA S k) ∧ (∀ k j, ¬ (k = 214 ∧ (j = 4 ∨ j = 5)) → zR S' k j = zR S k j) ∧ (∀ k, zL S' k = zL S k)
theorem XG.rf (S : PZ) : XG S S := ⟨fun _ _ _ => rfl, fun _ _ _ _ _ => rfl, fun _ _ _ => rfl, fun _ => rfl⟩
theorem XG.trans {S S' S'' : PZ} (h : XG S S') (g : XG S' S'') : XG S S'' := ⟨fun k j q => (g.1 k j q).trans (h.1 k j q), fun k a b c d => (g.2.1 k a b c d).trans (h.2.1 k a b c d), fun k j q => (g.2.2.1 k j q).trans (h.2.2.1 k j q), fun k => (g.2.2.2 k).trans (h.2.2.2 k)⟩
theorem XJ.xg {S S' : PZ} (h : XJ S S') : XG S S' := ⟨fun k j _ => h.1 k j, fun k a _ b c => h.2.1 k a b c, fun k j _ => h.2.2.1 k j, h.2.2.2⟩
theorem XG.nF {S S' : PZ} (h : XG S S') {j : Nat} {v : Int32} : XG S (uF S' 214 j v) := ⟨fun k i q => by rw [zF_ne _ _ (fun z => q z.1), h.1 k i q], h.2.1, h.2.2.1, h.2.2.2⟩
theorem XG.nA {S S' : PZ} (h : XG S S') {k : Nat} {f : Nat → Int32} (q : k = 207 ∨ k = 215 ∨ k = 216 ∨ k = 217) : XG S (uA S' k f) := ⟨h.1, fun a x y z u => by rw [zA_ne _ _ (by omega), h.2.1 a x y z u], h.2.2.1, h.2.2.2⟩
theorem XG.nR {S S' : PZ} (h : XG S S') {j v : Nat} (q : j = 4 ∨ j = 5) : XG S (uR S' 214 j v) := ⟨h.1, h.2.1, fun k i z => by rw [zR_uR, if_neg (by rintro ⟨rfl, rfl⟩; exact z ⟨rfl, q⟩), h.2.2.1 k i z], h.2.2.2⟩
theorem RX.xg (r : RX Θ S0 ω 202 c) (x : XG S0 S) : RX Θ S ω 202 c := by
  obtain ⟨h1, h2, h3, h4, h5, h6, h7, h8, h9⟩ := r
  obtain ⟨x1, x2, x3, x4⟩ := x
  refine ⟨h1, by rw [x3 14 17 (by omega)]; exact h2, by rw [x1 14 3 (by omega)]; exact h3, ?_, ?_, by rw [x1 202 3 (by omega)]; exact h6, by rw [x1 202 4 (by omega)]; exact h7, by rw [x1 202 5 (by omega)]; exact h8, by rw [x1 202 6 (by omega)]; exact h9⟩
  · rw [x2 15 (by omega) (by omega) (by omega) (by omega), x2 16 (by omega) (by omega) (by omega) (by omega), x2 (202 + 2) (by omega) (by omega) (by omega) (by omega)]; exact h4
  · rw [x2 (202 + 1) (by omega) (by omega) (by omega) (by omega)]; exact h5
/-- what stands between two slots -/
def CS (Θ : GP) (S : PZ) (h t : Nat) (D : Nat → Nat) : Prop := zHT Θ S h t ∧ (∀ u, u ≤ 60 → zA S h u = nI (D u) ∧ zA S t u = 0) ∧ ∃ top, top ≤ 60 ∧ zF S 214 3 = nI top ∧ ∀ u, top < u → D u = 0
theorem x_ease {D : Nat → Nat} (e : CS Θ S h t D) {cm : Nat} (h14 : zF S 14 3 = nI cm) (hc9 : cm ≤ 9) : ∃ S', F_X9_ease Θ (gb Θ + 214) (laz Θ S ω) n = some (.inl (none, laz Θ S' ω, n)) ∧ XG S S' ∧ CS Θ S' h t (eaR cm D 61) ∧ zF S' 214 0 = zF S 214 0 ∧ zF S' 214 2 = zF S 214 2 ∧ zA S' 215 = zA S 215 := by
  obtain ⟨e1, e2, top, e3, e4, e5⟩ := e
  obtain ⟨k1, k2, k3, k4, k5, k6, k7⟩ := e1.1.kd
  have stop := eaR_stop (c := cm) (d := D) (k := top + 1) (60 - top) (fun t h1 _ => e5 t (by omega))
  rw [show top + 1 + (60 - top) = 61 by omega] at stop
  by_cases z : cm = 0
  · subst z
    have ec : (if 0 < nI top - nI 0 then nI top - nI 0 else 0) = nI (top - 0) := cmx_nat (by omega) (by omega)
    have eu : uF S 214 3 (nI top) = S := by have := uF_self S 214 3; rw [e4] at this; exact this
    refine ⟨S, ?_, XG.rf S, ⟨e1, fun u hu => ⟨?_, (e2 u hu).2⟩, top, e3, e4, fun u hu => ?_⟩, rfl, rfl, rfl⟩
    · unfold F_X9_ease
      rw [a214_6, a14_3, h14]
      show B_X9_ease_10 Θ (L_X9_ease_10 Θ 4999) (gb Θ + 214) (nI 0) 1 (laz Θ S ω) n = _
      unfold B_X9_ease_10 J_X9_ease_58
      rw [a214_3, e4, a214_3, e4, ec, b214_3, Nat.sub_zero, eu, if_pos (show nI 0 ≤ 0 by decide)]
      split <;> rfl
    · rw [(e2 u hu).1, eaR_c0, if_pos (by omega)]
    · rw [eaR_c0]
      split
      · exact e5 u hu
      · rfl
  · obtain ⟨g', e6, hg⟩ := x_ease_L (Θ := Θ) (ω := ω) (n := n) (D := D) e1 (show 0 < cm by omega) hc9 e3 e4 top 1 5000 (zA S h) (by omega) (by omega) (by omega) (fun u hu => by
      rw [(e2 u hu).1]
      by_cases y : u < 1
      · have : u = 0 := by omega
        subst this
        rw [if_pos (by omega)]
        show _ = nI (adN (fun _ => 0) (0 - cm) (D 0) 0)
        rw [Nat.zero_sub, adN_at, Nat.zero_add]
      · rw [if_neg y])
    rw [uA_self] at e6
    have e6 : L_X9_ease_10 Θ 5000 (gb Θ + 214) (nI cm) 1 (laz Θ S ω) n = _ := e6
    refine ⟨uF (uA S h g') 214 3 (nI (top - cm)), ?_, (((XG.rf S).nA (by omega)).nF), ⟨⟨e1.1, e1.2.1, e1.2.2⟩, fun u hu => ⟨?_, ?_⟩, top - cm, by omega, zF_eq _ _ _ _, fun u hu => ?_⟩, ?_, ?_, ?_⟩
    · unfold F_X9_ease
      rw [a214_6, a14_3, h14, e6]
    · rw [zA_uF, zA_eq, hg u hu, stop]
      by_cases y : u < top + 1
      · rw [if_pos y]
      · rw [if_neg y, e5 u (by omega), eaR_big (top + 1) u (by omega) (by omega) (Or.inr (by omega))]
    · rw [zA_uF, zA_ne _ _ (fun y => k5 y.symm)]; exact (e2 u hu).2
    · exact eaR_top (fun t ht => e5 t ht) 61 u hu
    · rw [zF_ne _ _ (by omega), zF_uA]
    · rw [zF_ne _ _ (by omega), zF_uA]
    · rw [zA_uF, zA_ne _ _ (by omega)]
/-- within a slot with a prop: who is gathered -/
def SI (S0 S : PZ) (h t : Nat) (D : Nat → Nat) (k : Nat) (q : (Nat → Nat) × Nat) (T : Nat) : Prop := XJ S0 S ∧ (∀ u, u ≤ 60 → zA S h u = nI (if u < k then 0 else D u)) ∧ (∀ u, u ≤ 60 → zA S t u = nI (q.1 u)) ∧ T ≤ 60 ∧ ∀ u, T < u → q.1 u = 0
theorem x_jo1 {K21 : Nat → Int32 → Int32 → Int32 → Int32 → Int32 → OW → Nat → RO} {K83 : Nat → Int32 → Int32 → Int32 → Int32 → Int32 → Int32 → Int32 → Int32 → OW → Nat → RO} {l1 : Int32} {D : Nat → Nat} {k T nv x L j : Nat} {q : (Nat → Nat) × Nat} (e : zHT Θ S0 h t) (si : SI S0 S h t D k q T) (hn : nv ≤ 60) (hL : L < 1000) (hj : j < 3) : ∃ S' T', B_X9_spread_83 Θ K21 K83 (gb Θ + 214) l1 (nI nv) (nI q.2) (nI T) (nI (k - 1)) (nI x) (nI L) (nI j) (laz Θ S ω) n = K83 (gb Θ + 214) l1 (nI nv) (nI (jo1 nv (L + j) x q).2) (nI T') (nI (k - 1)) (nI x) (nI L) (nI (j + 1)) (laz Θ S' ω) n ∧ SI S0 S' h t D k (jo1 nv (L + j) x q) T' := by
  obtain ⟨k1, k2, k3, k4, k5, k6, k7⟩ := e.1.kd
  obtain ⟨x1, x2, x3, x4, x5⟩ := si
  have e' := e.xj x1
  unfold B_X9_spread_83 J_X9_spread_133
  rw [if_neg (show ¬ (3 : Int32) ≤ nI j from nI_ge (b := 3) hj (by omega)), nI_add, nI_1]
  unfold jo1
  by_cases z : L + j ≤ nv
  · rw [if_pos (nI_le z (by omega)), if_pos z, a214_5, e'.2.2, z_lI k2 (by omega) (by omega), z_sI k2 (by omega) (by omega), x3 _ (by omega)]
    have hT : (if nI T < nI (L + j) then nI (L + j) else nI T) = nI (if T < L + j then L + j else T) := by
      by_cases y : T < L + j
      · rw [if_pos (nI_lt y (by omega)), if_pos y]
      · rw [if_neg (nI_nlt (by omega) (by omega)), if_neg y]
    rw [hT]
    refine ⟨_, _, rfl, x1.nA (by omega), fun u hu => ?_, fun u hu => ?_, ?_, fun u hu => ?_⟩
    · rw [zA_ne _ _ (fun y => k5 y)]; exact x2 u hu
    · rw [zA_eq]
      show upd (zA S t) (L + j) _ u = nI (adN q.1 (L + j) x u)
      by_cases y : u = L + j
      · subst y; rw [upd_same, adN_at, nI_add]
      · rw [upd_ne _ _ y, adN_ne _ _ y]; exact x3 u hu
    · split <;> omega
    · show adN q.1 (L + j) x u = 0
      have : T < u ∧ u ≠ L + j := by split at hu <;> omega
      rw [adN_ne _ _ this.2]; exact x5 u this.1
  · rw [if_neg (nI_ge (by omega) (by omega)), if_neg z, nI_add]
    exact ⟨S, T, rfl, x1, x2, x3, x4, x5⟩
theorem x_jo3 {K21 : Nat → Int32 → Int32 → Int32 → Int32 → Int32 → OW → Nat → RO} {l1 : Int32} {D : Nat → Nat} {k T nv x L : Nat} {q : (Nat → Nat) × Nat} (e : zHT Θ S0 h t) (si : SI S0 S h t D (k + 1) q T) (hn : nv ≤ 60) (hL : L < 1000) : ∃ S' T', L_X9_spread_83 Θ K21 5000 (gb Θ + 214) l1 (nI nv) (nI q.2) (nI T) (nI k) (nI x) (nI L) 0 (laz Θ S ω) n = K21 (gb Θ + 214) l1 (nI nv) (nI (jo3 nv L x q).2) (nI T') (nI (k + 1)) (laz Θ S' ω) n ∧ SI S0 S' h t D (k + 1) (jo3 nv L x q) T' := by
  obtain ⟨S1, T1, e1, s1⟩ := x_jo1 (Θ := Θ) (ω := ω) (n := n) (K21 := K21) (K83 := L_X9_spread_83 Θ K21 4999) (l1 := l1) (x := x) (j := 0) e si hn hL (by omega)
  obtain ⟨S2, T2, e2, s2⟩ := x_jo1 (Θ := Θ) (ω := ω) (n := n) (K21 := K21) (K83 := L_X9_spread_83 Θ K21 4998) (l1 := l1) (x := x) (j := 1) e s1 hn hL (by omega)
  obtain ⟨S3, T3, e3, s3⟩ := x_jo1 (Θ := Θ) (ω := ω) (n := n) (K21 := K21) (K83 := L_X9_spread_83 Θ K21 4997) (l1 := l1) (x := x) (j := 2) e s2 hn hL (by omega)
  refine ⟨S3, T3, ?_, s3⟩
  have e1 : L_X9_spread_83 Θ K21 5000 (gb Θ + 214) l1 (nI nv) (nI q.2) (nI T) (nI k) (nI x) (nI L) 0 (laz Θ S ω) n = L_X9_spread_83 Θ K21 4999 (gb Θ + 214) l1 (nI nv) (nI (jo1 nv (L + 0) x q).2) (nI T1) (nI k) (nI x) (nI L) (nI (0 + 1)) (laz Θ S1 ω) n := e1
  have e2 : L_X9_spread_83 Θ K21 4999 (gb Θ + 214) l1 (nI nv) (nI (jo1 nv (L + 0) x q).2) (nI T1) (nI k) (nI x) (nI L) (nI (0 + 1)) (laz Θ S1 ω) n = L_X9_spread_83 Θ K21 4998 (gb Θ + 214) l1 (nI nv) (nI (jo1 nv (L + 1) x (jo1 nv (L + 0) x q)).2) (nI T2) (nI k) (nI x) (nI L) (nI (1 + 1)) (laz Θ S2 ω) n := e2
  have e3 : L_X9_spread_83 Θ K21 4998 (gb Θ + 214) l1 (nI nv) (nI (jo1 nv (L + 1) x (jo1 nv (L + 0) x q)).2) (nI T2) (nI k) (nI x) (nI L) (nI (1 + 1)) (laz Θ S2 ω) n = L_X9_spread_83 Θ K21 4997 (gb Θ + 214) l1 (nI nv) (nI (jo3 nv L x q).2) (nI T3) (nI k) (nI x) (nI L) (nI (2 + 1)) (laz Θ S3 ω) n := e3
  rw [e1, e2, e3]
  show B_X9_spread_83 Θ K21 (L_X9_spread_83 Θ K21 4996) (gb Θ + 214) l1 (nI nv) (nI (jo3 nv L x q).2) (nI T3) (nI k) (nI x) (nI L) (nI 3) (laz Θ S3 ω) n = _
  unfold B_X9_spread_83 J_X9_spread_139
  rw [if_pos (show (3 : Int32) ≤ nI 3 from nI_le (a := 3) (by omega) (by omega)), nI_1]
theorem x_spread_L (r : RX Θ S0 ω 202 c) (hes : ∀ p, c.2.2.2.1 p = false) {s : Nat} (hs : s < 10) (hn : c.2.2.1 s ≠ -1) (e : zHT Θ S0 h t) {D : Nat → Nat} {top : Nat} (h60 : top ≤ 60) (h3 : zF S0 214 3 = nI top) (hD : ∀ u, u ≤ 60 → D u < 2 ^ 31) : ∀ (m k f T : Nat) (S : PZ), k + m = top + 1 → m < f → SI S0 S h t D k (spR (frN c s) (nvN c) D k) T → ∃ S' T', L_X9_spread_21 Θ f (gb Θ + 214) (nI s) (nI (nvN c)) (nI (spR (frN c s) (nvN c) D k).2) (nI T) (nI k) (laz Θ S ω) n = some (.inl (some (.int (nI (spR (frN c s) (nvN c) D (top + 1)).2)), laz Θ (uR (uR (uF S' 214 3 (nI T')) 214 4 (gb Θ + t)) 214 5 (gb Θ + h)) ω, n)) ∧ SI S0 S' h t D (top + 1) (spR (frN c s) (nvN c) D (top + 1)) T' := by
  obtain ⟨k1, k2, k3, k4, k5, k6, k7⟩ := e.1.kd
  have hR : isR 202 := Or.inl rfl
  have hnv := r.1.nv
  intro m
  induction m with
  | zero =>
    intro k f T S h1 h2 si
    obtain ⟨f, rfl⟩ : ∃ g, f = g + 1 := ⟨f - 1, by omega⟩
    have hk : k = top + 1 := by omega
    subst hk
    refine ⟨S, T, ?_, si⟩
    have e' := e.xj si.1
    unfold L_X9_spread_21 B_X9_spread_21
    rw [a214_3, si.1.1, h3, if_pos (nI_lt (by omega) (by omega)), b214_3, a214_4, zR_uF, e'.2.1, a214_5, zR_uF, e'.2.2, b214_4, b214_5]
  | succ m ih =>
    intro k f T S h1 h2 si
    obtain ⟨f, rfl⟩ : ∃ g, f = g + 1 := ⟨f - 1, by omega⟩
    have hk : k ≤ 60 := by omega
    have e' := e.xj si.1
    have gk : zA S h k = nI (D k) := by rw [si.2.1 k hk, if_neg (by omega)]
    have si1 : SI S0 (uA S h (upd (zA S h) k 0)) h t D (k + 1) (spR (frN c s) (nvN c) D k) T := by
      obtain ⟨x1, x2, x3, x4, x5⟩ := si
      refine ⟨x1.nA (by omega), fun u hu => ?_, fun u hu => ?_, x4, x5⟩
      · rw [zA_eq]
        by_cases z : u = k
        · subst z; rw [upd_same, if_pos (by omega)]; rfl
        · rw [upd_ne _ _ z, x2 u hu]
          by_cases y : u < k
          · rw [if_pos y, if_pos (by omega)]
          · rw [if_neg y, if_neg (by omega)]
      · rw [zA_ne _ _ (fun y => k5 y.symm)]; exact x3 u hu
    rw [show L_X9_spread_21 Θ (f + 1) (gb Θ + 214) (nI s) (nI (nvN c)) (nI (spR (frN c s) (nvN c) D k).2) (nI T) (nI k) (laz Θ S ω) n = B_X9_spread_21 Θ (L_X9_spread_21 Θ f) (gb Θ + 214) (nI s) (nI (nvN c)) (nI (spR (frN c s) (nvN c) D k).2) (nI T) (nI k) (laz Θ S ω) n from rfl]
    unfold B_X9_spread_21 J_X9_spread_139
    rw [a214_3, si.1.1, h3, if_neg (nI_nlt (by omega) (by omega)), a214_4, e'.2.1, z_lI k1 (by omega) (by omega), gk, a214_4, e'.2.1, z_sI k1 (by omega) (by omega), nI_1]
    by_cases z : D k = 0
    · rw [z, if_pos (show nI 0 = 0 from rfl)]
      have es : spR (frN c s) (nvN c) D (k + 1) = spR (frN c s) (nvN c) D k := by
        show jo3 (nvN c) (k + frN c s k) (D k) (spR (frN c s) (nvN c) D k) = _
        rw [z, jo3_0]
      have := ih (k + 1) f T (uA S h (upd (zA S h) k 0)) (by omega) (by omega) (by rw [es]; exact si1)
      rw [es] at this
      exact this
    · have r1 : RX Θ (uA S h (upd (zA S h) k 0)) ω 202 c := r.xj si1.1
      obtain ⟨fs, o1, o2⟩ := x_law_ob r1
      obtain ⟨g, m1, m2⟩ := x_meet (n := n) hR r1 hs hn (nI k)
      have hfr := r1.1.fr hs hn k
      have ef : frS c.2.1 (rfc c s (nI k)) = nI (frN c s k) := by
        rw [← hfr.1]
        unfold rfr
        rw [if_neg (by rw [hes]; decide)]
      have si2 : SI S0 (uA (uA S h (upd (zA S h) k 0)) 207 g) h t D (k + 1) (spR (frN c s) (nvN c) D k) T := by
        obtain ⟨x1, x2, x3, x4, x5⟩ := si1
        refine ⟨x1.nA (by omega), fun u hu => ?_, fun u hu => ?_, x4, x5⟩
        · rw [zA_ne _ _ (by omega)]; exact x2 u hu
        · rw [zA_ne _ _ (by omega)]; exact x3 u hu
      obtain ⟨S1, T1, e3, s3⟩ := x_jo3 (Θ := Θ) (ω := ω) (n := n) (K21 := L_X9_spread_21 Θ f) (l1 := nI s) (x := D k) (L := k + frN c s k) e si2 hnv.2 (by omega)
      rw [if_neg (nI_ne0 (by omega) (hD k hk)), a214_6, a14_17, a214_7, d202, m1, kA_v, o_cO o1 o2, x_frAt hR r1 hs hn ⟨k, by omega, rfl⟩ m2, kI_v, ef, nI_add]
      have e3 : L_X9_spread_83 Θ (L_X9_spread_21 Θ f) 5000 (gb Θ + 214) (nI s) (nI (nvN c)) (nI (spR (frN c s) (nvN c) D k).2) (nI T) (nI k) (nI (D k)) (nI (k + frN c s k)) 0 (laz Θ (uA (uA S h (upd (zA S h) k 0)) (202 + 5) g) ω) n = _ := e3
      rw [e3]
      exact ih (k + 1) f T1 S1 (by omega) (by omega) s3
theorem x_spread (r : RX Θ S ω 202 c) (hes : ∀ p, c.2.2.2.1 p = false) {s : Nat} (hs : s < 10) (hn : c.2.2.1 s ≠ -1) {D : Nat → Nat} (e : CS Θ S h t D) (hD : ∀ u, u ≤ 60 → D u < 2 ^ 31) : ∃ S', F_X9_spread Θ (gb Θ + 214) (nI s) (laz Θ S ω) n = some (.inl (some (.int (nI (spR (frN c s) (nvN c) D 61).2)), laz Θ S' ω, n)) ∧ XG S S' ∧ CS Θ S' t h (spR (frN c s) (nvN c) D 61).1 ∧ zF S' 214 0 = zF S 214 0 ∧ zF S' 214 2 = zF S 214 2 ∧ zA S' 215 = zA S 215 := by
  obtain ⟨e1, e2, top, e3, e4, e5⟩ := e
  obtain ⟨k1, k2, k3, k4, k5, k6, k7⟩ := e1.1.kd
  have hnv := r.1.nv
  have stop := spR_stop (fr := frN c s) (nv := nvN c) (d := D) (k := top + 1) (60 - top) (fun t h1 _ => e5 t (by omega))
  rw [show top + 1 + (60 - top) = 61 by omega] at stop
  obtain ⟨S1, T1, e6, s6⟩ := x_spread_L (n := n) r hes hs hn e1 e3 e4 hD (top + 1) 0 5000 0 S (by omega) (by omega) ⟨XJ.rf S, fun u hu => by rw [if_neg (by omega)]; exact (e2 u hu).1, fun u hu => by rw [(e2 u hu).2]; rfl, by omega, fun u _ => rfl⟩
  have e6 : L_X9_spread_21 Θ 5000 (gb Θ + 214) (nI s) (nI (nvN c)) 0 0 0 (laz Θ S ω) n = _ := e6
  obtain ⟨x1, x2, x3, x4, x5⟩ := s6
  refine ⟨uR (uR (uF S1 214 3 (nI T1)) 214 4 (gb Θ + t)) 214 5 (gb Θ + h), ?_, ((x1.xg.nF).nR (by omega)).nR (by omega), ⟨⟨?_, ?_, ?_⟩, fun u hu => ⟨?_, ?_⟩, T1, x4, by rw [zF_uR, zF_uR, zF_eq], fun u hu => by rw [stop]; exact x5 u hu⟩, ?_, ?_, ?_⟩
  · unfold F_X9_spread
    rw [a214_7, a202_4, r.2.2.2.2.2.2.1, hnv.1, if_neg (show ¬ (60 : Int32) < nI (nvN c) from nI_nlt (a := 60) hnv.2 (by omega)), e6, stop]
  · rcases e1.1 with ⟨rfl, rfl⟩ | ⟨rfl, rfl⟩
    · exact Or.inr ⟨rfl, rfl⟩
    · exact Or.inl ⟨rfl, rfl⟩
  · rw [zR_uR, if_neg (by omega), zR_uR, if_pos ⟨rfl, rfl⟩]
  · rw [zR_uR, if_pos ⟨rfl, rfl⟩]
  · show zA S1 t u = _
    rw [stop]; exact x3 u hu
  · show zA S1 h u = _
    rw [x2 u hu]
    by_cases y : u < top + 1
    · rw [if_pos y]; rfl
    · rw [if_neg y, e5 u (by omega)]; rfl
  · show zF (uF S1 214 3 (nI T1)) 214 0 = _
    rw [zF_ne _ _ (by omega), x1.1]
  · show zF (uF S1 214 3 (nI T1)) 214 2 = _
    rw [zF_ne _ _ (by omega), x1.1]
  · show zA S1 215 = _
    exact x1.2.1 215 (by omega) (by omega) (by omega)
end WX
