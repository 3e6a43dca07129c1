/-! ways of jolts, as numbers -/
def sPf (g : Nat → Nat) : Nat → Nat
  | 0 => 0
  | k + 1 => sPf g k + g k
def adN (g : Nat → Nat) (u x : Nat) : Nat → Nat := fun v => if v = u then g v + x else g v
theorem adN_0 (g : Nat → Nat) (u : Nat) : adN g u 0 = g := by
  funext v
  unfold adN
  split <;> rfl
theorem adN_at (g : Nat → Nat) (u x : Nat) : adN g u x u = g u + x := if_pos rfl
theorem adN_ne (g : Nat → Nat) {u v : Nat} (x : Nat) (h : v ≠ u) : adN g u x v = g v := if_neg h
theorem sPf_ad (g : Nat → Nat) (u x : Nat) : ∀ k, sPf (adN g u x) k = sPf g k + (if u < k then x else 0) := by
  intro k
  induction k with
  | zero => rfl
  | succ k ih =>
    unfold sPf
    rw [ih]
    by_cases z : u = k
    · subst z
      rw [adN_at, if_neg (Nat.lt_irrefl _), if_pos (Nat.lt_succ_self _)]
      omega
    · rw [adN_ne _ _ (fun e => z e.symm)]
      by_cases y : u < k
      · rw [if_pos y, if_pos (by omega)]; omega
      · rw [if_neg y, if_neg (by omega)]; omega
theorem sPf_congr {f g : Nat → Nat} : ∀ k, (∀ q, q < k → f q = g q) → sPf f k = sPf g k := by
  intro k
  induction k with
  | zero => intro _; rfl
  | succ k ih =>
    intro h
    unfold sPf
    rw [ih (fun q hq => h q (by omega)), h k (by omega)]
theorem sPf_le {g : Nat → Nat} {u : Nat} : ∀ k, u < k → g u ≤ sPf g k := by
  intro k
  induction k with
  | zero => intro h; omega
  | succ k ih =>
    intro h
    unfold sPf
    by_cases z : u = k
    · subst z; omega
    · have := ih (by omega); omega
theorem sPf_0 {g : Nat → Nat} : ∀ k, (∀ q, q < k → g q = 0) → sPf g k = 0 := by
  intro k
  induction k with
  | zero => intro _; rfl
  | succ k ih =>
    intro h
    unfold sPf
    rw [ih (fun q hq => h q (by omega)), h k (by omega)]
/-- a slot without a prop -/
def eaR (c : Nat) (d : Nat → Nat) : Nat → (Nat → Nat)
  | 0 => fun _ => 0
  | k + 1 => adN (eaR c d k) (k - c) (d k)
/-- one jolt of one so tense: who goes on, how many end -/
def jo1 (nv L x : Nat) (q : (Nat → Nat) × Nat) : (Nat → Nat) × Nat := if L ≤ nv then (adN q.1 L x, q.2) else (q.1, q.2 + x)
def jo3 (nv L x : Nat) (q : (Nat → Nat) × Nat) : (Nat → Nat) × Nat := jo1 nv (L + 2) x (jo1 nv (L + 1) x (jo1 nv L x q))
/-- a slot with a prop -/
def spR (fr : Nat → Nat) (nv : Nat) (d : Nat → Nat) : Nat → (Nat → Nat) × Nat
  | 0 => (fun _ => 0, 0)
  | k + 1 => jo3 nv (k + fr k) (d k) (spR fr nv d k)
theorem jo1_0 (nv L : Nat) (q : (Nat → Nat) × Nat) : jo1 nv L 0 q = q := by
  unfold jo1
  split
  · rw [adN_0]
  · rfl
theorem jo3_0 (nv L : Nat) (q : (Nat → Nat) × Nat) : jo3 nv L 0 q = q := by
  unfold jo3
  rw [jo1_0, jo1_0, jo1_0]
theorem spR_stop {fr : Nat → Nat} {nv : Nat} {d : Nat → Nat} {k : Nat} : ∀ m, (∀ t, k ≤ t → t < k + m → d t = 0) → spR fr nv d (k + m) = spR fr nv d k := by
  intro m
  induction m with
  | zero => intro _; rfl
  | succ m ih =>
    intro h
    show jo3 nv ((k + m) + fr (k + m)) (d (k + m)) (spR fr nv d (k + m)) = _
    rw [h (k + m) (by omega) (by omega), jo3_0, ih (fun t a b => h t a (by omega))]
theorem eaR_stop {c : Nat} {d : Nat → Nat} {k : Nat} : ∀ m, (∀ t, k ≤ t → t < k + m → d t = 0) → eaR c d (k + m) = eaR c d k := by
  intro m
  induction m with
  | zero => intro _; rfl
  | succ m ih =>
    intro h
    show adN (eaR c d (k + m)) ((k + m) - c) (d (k + m)) = _
    rw [h (k + m) (by omega) (by omega), adN_0, ih (fun t a b => h t a (by omega))]
theorem eaR_big {c : Nat} {d : Nat → Nat} : ∀ k u, k ≤ u → 0 < u → (0 < c ∨ k ≤ u) → eaR c d k u = 0 := by
  intro k
  induction k with
  | zero => intro u _ _ _; rfl
  | succ k ih =>
    intro u h1 h2 _
    show adN (eaR c d k) (k - c) (d k) u = 0
    rw [adN_ne _ _ (by omega), ih u (by omega) h2 (Or.inr (by omega))]
/-- without calm all stays -/
theorem eaR_c0 (d : Nat → Nat) : ∀ k u, eaR 0 d k u = if u < k then d u else 0 := by
  intro k
  induction k with
  | zero => intro u; rfl
  | succ k ih =>
    intro u
    show adN (eaR 0 d k) (k - 0) (d k) u = _
    rw [Nat.sub_zero]
    by_cases z : u = k
    · subst z
      rw [adN_at, ih, if_neg (by omega), if_pos (by omega), Nat.zero_add]
    · rw [adN_ne _ _ z, ih]
      by_cases y : u < k
      · rw [if_pos y, if_pos (by omega)]
      · rw [if_neg y, if_neg (by omega)]
/-- above top nothing stands -/
theorem eaR_top {c : Nat} {d : Nat → Nat} {top : Nat} (h : ∀ t, top < t → d t = 0) : ∀ k u, top - c < u → eaR c d k u = 0 := by
  intro k
  induction k with
  | zero => intro u _; rfl
  | succ k ih =>
    intro u hu
    show adN (eaR c d k) (k - c) (d k) u = 0
    by_cases z : u = k - c
    · subst z
      rw [adN_at, ih _ hu, h k (by omega)]
    · rw [adN_ne _ _ z, ih u hu]
theorem eaR_sum (c : Nat) (d : Nat → Nat) : ∀ k, k ≤ 61 → sPf (eaR c d k) 61 = sPf d k := by
  intro k
  induction k with
  | zero => intro _; exact sPf_0 61 (fun _ _ => rfl)
  | succ k ih =>
    intro hk
    show sPf (adN (eaR c d k) (k - c) (d k)) 61 = sPf d k + d k
    rw [sPf_ad, ih (by omega), if_pos (by omega)]
theorem jo1_sum {nv L x : Nat} (hn : nv ≤ 60) (q : (Nat → Nat) × Nat) : sPf (jo1 nv L x q).1 61 + (jo1 nv L x q).2 = sPf q.1 61 + q.2 + x := by
  unfold jo1
  by_cases z : L ≤ nv
  · rw [if_pos z]
    dsimp only
    rw [sPf_ad, if_pos (by omega)]
    omega
  · rw [if_neg z]
    dsimp only
    omega
theorem jo3_sum {nv L x : Nat} (hn : nv ≤ 60) (q : (Nat → Nat) × Nat) : sPf (jo3 nv L x q).1 61 + (jo3 nv L x q).2 = sPf q.1 61 + q.2 + 3 * x := by
  unfold jo3
  rw [jo1_sum hn, jo1_sum hn, jo1_sum hn]
  omega
theorem spR_sum {fr : Nat → Nat} {nv : Nat} {d : Nat → Nat} (hn : nv ≤ 60) : ∀ k, sPf (spR fr nv d k).1 61 + (spR fr nv d k).2 = 3 * sPf d k := by
  intro k
  induction k with
  | zero =>
    show sPf (fun _ => 0) 61 + 0 = 3 * 0
    rw [sPf_0 61 (fun _ _ => rfl)]
  | succ k ih =>
    show sPf (jo3 nv (k + fr k) (d k) (spR fr nv d k)).1 61 + (jo3 nv (k + fr k) (d k) (spR fr nv d k)).2 = 3 * (sPf d k + d k)
    rw [jo3_sum hn, ih]
    omega
theorem jo1_big {nv L x : Nat} {q : (Nat → Nat) × Nat} (h : ∀ u, nv < u → q.1 u = 0) : ∀ u, nv < u → (jo1 nv L x q).1 u = 0 := by
  intro u hu
  unfold jo1
  by_cases z : L ≤ nv
  · rw [if_pos z]
    show adN q.1 L x u = 0
    rw [adN_ne _ _ (by omega)]; exact h u hu
  · rw [if_neg z]; exact h u hu
theorem spR_big {fr : Nat → Nat} {nv : Nat} {d : Nat → Nat} : ∀ k u, nv < u → (spR fr nv d k).1 u = 0 := by
  intro k
  induction k with
  | zero => intro u _; rfl
  | succ k ih =>
    intro u hu
    exact jo1_big (jo1_big (jo1_big ih)) u hu
/-- the same, times m -/
theorem jo1_mul {nv L x m : Nat} {q q' : (Nat → Nat) × Nat} (h1 : ∀ u, q'.1 u = q.1 u * m) (h2 : q'.2 = q.2 * m) : (∀ u, (jo1 nv L (x * m) q').1 u = (jo1 nv L x q).1 u * m) ∧ (jo1 nv L (x * m) q').2 = (jo1 nv L x q).2 * m := by
  unfold jo1
  by_cases z : L ≤ nv
  · rw [if_pos z, if_pos z]
    refine ⟨fun u => ?_, h2⟩
    show adN q'.1 L (x * m) u = adN q.1 L x u * m
    unfold adN
    split
    · rw [h1, Nat.add_mul]
    · exact h1 u
  · rw [if_neg z, if_neg z]
    refine ⟨h1, ?_⟩
    show q'.2 + x * m = (q.2 + x) * m
    rw [h2, Nat.add_mul]
def pRg (f : Nat → Nat) (k : Nat) : Prop := ∀ u, u ≤ 60 → f u ≤ k
/-- who rides, in numbers: frights by slot and tense, nerve, calm -/
def frN (c : RPar) (s t : Nat) : Nat := (rfr c s (nI t)).toNatClampNeg
def nvN (c : RPar) : Nat := c.2.2.2.2.1.toNatClampNeg
def cmN (c : RPar) : Nat := (c.1 5).toNatClampNeg
/-- how many props ahead of slot s -/
def npS (c : RPar) : Nat → Nat
  | 0 => 0
  | s + 1 => npS c s + (if c.2.2.1 s = -1 then 0 else 1)
def wyD (c : RPar) : Nat → (Nat → Nat)
  | 0 => fun t => if t = 0 then 1 else 0
  | s + 1 => if c.2.2.1 s = -1 then eaR (cmN c) (wyD c s) 61 else (spR (frN c s) (nvN c) (wyD c s) 61).1
def wyE (c : RPar) (s : Nat) : Nat := if c.2.2.1 s = -1 then 0 else (spR (frN c s) (nvN c) (wyD c s) 61).2
/-- screams in slot s, of all rows -/
noncomputable def wyA (c : RPar) (s : Nat) : Nat := wyE c s * 3 ^ (npS c ten - npS c (s + 1))
/-- of the first k slots -/
noncomputable def wyT (c : RPar) : Nat → Nat := sPf (wyA c)
theorem npS_mono (c : RPar) (s : Nat) : ∀ m, npS c s ≤ npS c (s + m) := by
  intro m
  induction m with
  | zero => exact Nat.le_refl _
  | succ m ih =>
    show _ ≤ npS c (s + m) + (if c.2.2.1 (s + m) = -1 then 0 else 1)
    omega
theorem ROK.nv {c : RPar} (h : ROK c) : c.2.2.2.2.1 = nI (nvN c) ∧ nvN c ≤ 60 := by
  obtain ⟨k, h1, h2⟩ := h.2.2.2
  have : nvN c = k := by unfold nvN; rw [h2]; exact nI_clamp (by omega)
  rw [this]; exact ⟨h2, h1⟩
theorem ROK.cm {c : RPar} (h : ROK c) : c.1 5 = nI (cmN c) ∧ cmN c ≤ 9 := by
  obtain ⟨k, h1, h2⟩ := h.1.2.2.2.2.1
  have : cmN c = k := by unfold cmN; rw [h2]; exact nI_clamp (by omega)
  rw [this]; exact ⟨h2, h1⟩
theorem ROK.fr {c : RPar} (h : ROK c) {s : Nat} (hs : s < 10) (hn : c.2.2.1 s ≠ -1) (t : Nat) : rfr c s (nI t) = nI (frN c s t) ∧ frN c s t ≤ 380 := by
  obtain ⟨k, h1, h2⟩ := rfr_rg h hs hn (nI t)
  have : frN c s t = k := by unfold frN; rw [h2]; exact nI_clamp (by omega)
  rw [this]; exact ⟨h2, h1⟩
theorem wyD_big {c : RPar} (h : nvN c ≤ 60) : ∀ s u, 60 < u → wyD c s u = 0 := by
  intro s
  induction s with
  | zero => intro u hu; exact if_neg (by omega)
  | succ s ih =>
    intro u hu
    unfold wyD
    split
    · exact eaR_top (top := 60) (fun t ht => ih t ht) 61 u (by omega)
    · exact spR_big 61 u (by omega)
/-- above the nerve nobody goes on -/
theorem wyD_nv {c : RPar} : ∀ s u, nvN c < u → wyD c s u = 0 := by
  intro s
  induction s with
  | zero => intro u hu; exact if_neg (by omega)
  | succ s ih =>
    intro u hu
    unfold wyD
    split
    · exact eaR_top (top := nvN c) (fun t ht => ih t ht) 61 u (by omega)
    · exact spR_big 61 u (by omega)
/-- rows that go on, and those that ended, are all rows -/
theorem wy_all {c : RPar} (h : nvN c ≤ 60) : ∀ s, s ≤ 10 → sPf (wyD c s) 61 * 3 ^ (npS c ten - npS c s) + wyT c s = 3 ^ npS c ten := by
  intro s
  induction s with
  | zero =>
    intro _
    have e : sPf (wyD c 0) 61 = 1 := by
      have : wyD c 0 = adN (fun _ => 0) 0 1 := by
        funext u
        unfold adN
        show (if u = 0 then 1 else 0) = if u = 0 then 0 + 1 else 0
        rfl
      rw [this, sPf_ad, sPf_0 61 (fun _ _ => rfl), if_pos (by omega)]
    rw [e, Nat.one_mul]
    show 3 ^ (npS c ten - 0) + 0 = _
    rw [Nat.sub_zero, Nat.add_zero]
  | succ s ih =>
    intro hs
    have hi := ih (by omega)
    have hm := npS_mono c (s + 1) (10 - (s + 1))
    rw [show s + 1 + (10 - (s + 1)) = 10 by omega] at hm
    show sPf (wyD c (s + 1)) 61 * 3 ^ (npS c ten - npS c (s + 1)) + (wyT c s + wyA c s) = _
    rw [← hi]
    unfold wyA wyE
    by_cases z : c.2.2.1 s = -1
    · have e1 : npS c (s + 1) = npS c s := by show npS c s + _ = _; rw [if_pos z]; rfl
      have e2 : wyD c (s + 1) = eaR (cmN c) (wyD c s) 61 := if_pos z
      rw [e1, e2, eaR_sum _ _ 61 (by omega), if_pos z]
      omega
    · have e1 : npS c (s + 1) = npS c s + 1 := by show npS c s + _ = _; rw [if_neg z]
      have e2 : wyD c (s + 1) = (spR (frN c s) (nvN c) (wyD c s) 61).1 := if_neg z
      have e3 := spR_sum (fr := frN c s) (d := wyD c s) h 61
      rw [e2, if_neg z, e1]
      rw [e1] at hm
      have hm : npS c s + 1 ≤ npS c ten := by rw [ten_eq]; exact hm
      have e4 : 3 ^ (npS c ten - npS c s) = 3 * 3 ^ (npS c ten - (npS c s + 1)) := by
        rw [show npS c ten - npS c s = (npS c ten - (npS c s + 1)) + 1 by omega, Nat.pow_succ, Nat.mul_comm]
      rw [e4]
      generalize 3 ^ (npS c ten - (npS c s + 1)) = X
      generalize sPf (spR (frN c s) (nvN c) (wyD c s) 61).1 61 = A at *
      generalize (spR (frN c s) (nvN c) (wyD c s) 61).2 = B at *
      generalize sPf (wyD c s) 61 = D at *
      have : A * X + B * X = D * (3 * X) := by rw [← Nat.add_mul, e3, Nat.mul_comm 3 D, Nat.mul_assoc]
      omega
theorem wyD_le {c : RPar} (h : nvN c ≤ 60) {s : Nat} (hs : s ≤ 10) (u : Nat) : wyD c s u * 3 ^ (npS c ten - npS c s) ≤ 3 ^ npS c ten := by
  by_cases z : u < 61
  · have h1 := wy_all h s hs
    have h2 := Nat.mul_le_mul_right (3 ^ (npS c ten - npS c s)) (sPf_le (g := wyD c s) 61 z)
    omega
  · rw [wyD_big h s u (by omega), Nat.zero_mul]; exact Nat.zero_le _
theorem wyT_le {c : RPar} (h : nvN c ≤ 60) {s : Nat} (hs : s ≤ 10) : wyT c s ≤ 3 ^ npS c ten := by
  have h1 := wy_all h s hs
  omega
