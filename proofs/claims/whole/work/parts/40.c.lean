/-! promise 29: ask -/
def cpx (fit : Nat → Bool) (g : Nat → Int32) : Nat → Int32 → Nat
  | 0, _ => 0
  | k + 1, y => cpx fit g k y + (if fit k = true ∧ g k = y then 1 else 0)
def gpt (fit : Nat → Bool) (g : Nat → Int32) : Nat → Nat
  | 0 => 0
  | k + 1 => if fit k = true then (if gpt fit g k < cpx fit g k (g k) + 1 then cpx fit g k (g k) + 1 else gpt fit g k) else gpt fit g k
def cfN (fit : Nat → Bool) : Nat → Nat
  | 0 => 0
  | k + 1 => cfN fit k + (if fit k = true then 1 else 0)
def PRT (fit : Nat → Bool) (g : Nat → Int32) (k G : Nat) : Prop := (∀ x, cpx fit g k x ≤ G) ∧ (G = 0 ∨ ∃ u, u < k ∧ fit u = true ∧ cpx fit g k (g u) = G)
theorem PRT.uni {fit : Nat → Bool} {g : Nat → Int32} {k G G' : Nat} (h : PRT fit g k G) (h' : PRT fit g k G') : G = G' := by
  apply Nat.le_antisymm
  · rcases h.2 with z | ⟨u, _, _, e⟩
    · omega
    · rw [← e]; exact h'.1 _
  · rcases h'.2 with z | ⟨u, _, _, e⟩
    · omega
    · rw [← e]; exact h.1 _
theorem gpt_prt (fit : Nat → Bool) (g : Nat → Int32) : ∀ k, PRT fit g k (gpt fit g k) := by
  intro k
  induction k with
  | zero => exact ⟨fun x => Nat.le_refl _, Or.inl rfl⟩
  | succ k ih =>
    obtain ⟨h1, h2⟩ := ih
    have ec : ∀ y, cpx fit g (k + 1) y = cpx fit g k y + (if fit k = true ∧ g k = y then 1 else 0) := fun _ => rfl
    unfold PRT gpt
    by_cases z : fit k = true
    · rw [if_pos z]
      by_cases y : gpt fit g k < cpx fit g k (g k) + 1
      · rw [if_pos y]
        refine ⟨fun x => ?_, Or.inr ⟨k, by omega, z, by rw [ec, if_pos ⟨z, rfl⟩]⟩⟩
        rw [ec]
        by_cases v : fit k = true ∧ g k = x
        · rw [if_pos v, v.2]; exact Nat.le_refl _
        · rw [if_neg v]; have := h1 x; omega
      · rw [if_neg y]
        refine ⟨fun x => ?_, ?_⟩
        · rw [ec]
          by_cases v : fit k = true ∧ g k = x
          · rw [if_pos v, ← v.2]; omega
          · rw [if_neg v]; exact h1 x
        · rcases h2 with e | ⟨u, u1, u2, u3⟩
          · omega
          · refine Or.inr ⟨u, by omega, u2, ?_⟩
            rw [ec, if_neg]
            · exact u3
            · rintro ⟨_, v⟩
              rw [v] at y
              omega
    · rw [if_neg z]
      refine ⟨fun x => ?_, ?_⟩
      · rw [ec, if_neg (fun v => z v.1)]; exact h1 x
      · rcases h2 with e | ⟨u, u1, u2, u3⟩
        · exact Or.inl e
        · exact Or.inr ⟨u, by omega, u2, by rw [ec, if_neg (fun v => z v.1)]; exact u3⟩
theorem cpx_le (fit : Nat → Bool) (g : Nat → Int32) : ∀ k y, cpx fit g k y ≤ k := by
  intro k
  induction k with
  | zero => intro y; exact Nat.le_refl _
  | succ k ih =>
    intro y
    have := ih y
    show cpx fit g k y + (if fit k = true ∧ g k = y then 1 else 0) ≤ _
    split <;> omega
theorem gpt_le (fit : Nat → Bool) (g : Nat → Int32) : ∀ k, gpt fit g k ≤ k := by
  intro k
  rcases (gpt_prt fit g k).2 with e | ⟨u, _, _, e⟩
  · omega
  · rw [← e]; exact cpx_le fit g k _
theorem cpx_pos (fit : Nat → Bool) (g : Nat → Int32) : ∀ k y, 0 < cpx fit g k y → ∃ u, u < k ∧ fit u = true ∧ g u = y := by
  intro k
  induction k with
  | zero => intro y h; exact absurd h (Nat.lt_irrefl _)
  | succ k ih =>
    intro y h
    by_cases z : fit k = true ∧ g k = y
    · exact ⟨k, by omega, z⟩
    · have h : 0 < cpx fit g k y + (if fit k = true ∧ g k = y then 1 else 0) := h
      rw [if_neg z] at h
      obtain ⟨u, u1, u2⟩ := ih y h
      exact ⟨u, by omega, u2⟩
theorem cfN_mono (fit : Nat → Bool) (u : Nat) : ∀ m, cfN fit u ≤ cfN fit (u + m) := by
  intro m
  induction m with
  | zero => exact Nat.le_refl _
  | succ m ih =>
    show _ ≤ cfN fit (u + m) + (if fit (u + m) = true then 1 else 0)
    omega
theorem cfN_lt {fit : Nat → Bool} {u k : Nat} (h : u < k) (hf : fit u = true) : cfN fit u < cfN fit k := by
  have h1 := cfN_mono fit (u + 1) (k - (u + 1))
  rw [show u + 1 + (k - (u + 1)) = k by omega] at h1
  have h2 : cfN fit (u + 1) = cfN fit u + (if fit u = true then 1 else 0) := rfl
  rw [if_pos hf] at h2
  omega
theorem cfN_le (fit : Nat → Bool) : ∀ k, cfN fit k ≤ k := by
  intro k
  induction k with
  | zero => exact Nat.le_refl _
  | succ k ih =>
    show cfN fit k + (if fit k = true then 1 else 0) ≤ _
    split <;> omega
theorem cfN_surj (fit : Nat → Bool) : ∀ k j, j < cfN fit k → ∃ u, u < k ∧ fit u = true ∧ cfN fit u = j := by
  intro k
  induction k with
  | zero => intro j h; exact absurd h (Nat.not_lt_zero _)
  | succ k ih =>
    intro j h
    have h : j < cfN fit k + (if fit k = true then 1 else 0) := h
    by_cases z : fit k = true
    · rw [if_pos z] at h
      by_cases y : j = cfN fit k
      · exact ⟨k, by omega, z, y.symm⟩
      · obtain ⟨u, u1, u2⟩ := ih j (by omega)
        exact ⟨u, by omega, u2⟩
    · rw [if_neg z] at h
      obtain ⟨u, u1, u2⟩ := ih j h
      exact ⟨u, by omega, u2⟩
theorem foA_cf (fit : Nat → Bool) : ∀ (k p : Nat) (q : Nat × Int32), (foA fit k p q).1 + cfN fit p = q.1 + cfN fit (p + k) := by
  intro k
  induction k with
  | zero => intro p q; rfl
  | succ k ih =>
    intro p q
    have e : cfN fit (p + 1) = cfN fit p + (if fit p = true then 1 else 0) := rfl
    have h := ih (p + 1) (if fit p = true then (q.1 + 1, q.2 &&& nI p) else q)
    rw [show p + 1 + k = p + (k + 1) by omega, e] at h
    show (foA fit k (p + 1) (if fit p = true then (q.1 + 1, q.2 &&& nI p) else q)).1 + _ = _
    by_cases z : fit p = true
    · rw [if_pos z, if_pos z] at h
      rw [if_pos z]
      dsimp only at h
      omega
    · rw [if_neg z, if_neg z] at h
      rw [if_neg z]
      omega
theorem arr_cnt {fit : Nat → Bool} {g A : Nat → Int32} (h : ∀ u, u < 64 → fit u = true → A (cfN fit u) = g u) (y : Int32) : ∀ m, m ≤ 64 → sPf (fun j => if A j = y then 1 else 0) (cfN fit m) = cpx fit g m y := by
  intro m
  induction m with
  | zero => intro _; rfl
  | succ m ih =>
    intro hm
    have e1 : cfN fit (m + 1) = cfN fit m + (if fit m = true then 1 else 0) := rfl
    have e2 : cpx fit g (m + 1) y = cpx fit g m y + (if fit m = true ∧ g m = y then 1 else 0) := rfl
    by_cases z : fit m = true
    · rw [e1, if_pos z, e2]
      show sPf _ (cfN fit m) + (if A (cfN fit m) = y then 1 else 0) = _
      rw [ih (by omega), h m (by omega) z]
      by_cases x : g m = y
      · rw [if_pos x, if_pos ⟨z, x⟩]
      · rw [if_neg x, if_neg (fun u => x u.2)]
    · rw [e1, if_neg z, e2, if_neg (fun u => z u.1), Nat.add_zero, Nat.add_zero, ih (by omega)]
/-- the greatest part, by pairs -/
def mxA (A : Nat → Int32) (M : Nat) : Nat → Nat
  | 0 => 0
  | k + 1 => if mxA A M k < sPf (fun j => if A j = A k then 1 else 0) M then sPf (fun j => if A j = A k then 1 else 0) M else mxA A M k
theorem mxA_spec (A : Nat → Int32) (M : Nat) : ∀ k, (∀ i, i < k → sPf (fun j => if A j = A i then 1 else 0) M ≤ mxA A M k) ∧ (mxA A M k = 0 ∨ ∃ i, i < k ∧ sPf (fun j => if A j = A i then 1 else 0) M = mxA A M k) := by
  intro k
  induction k with
  | zero => exact ⟨fun i h => by omega, Or.inl rfl⟩
  | succ k ih =>
    obtain ⟨h1, h2⟩ := ih
    unfold mxA
    by_cases z : mxA A M k < sPf (fun j => if A j = A k then 1 else 0) M
    · rw [if_pos z]
      refine ⟨fun i hi => ?_, Or.inr ⟨k, by omega, rfl⟩⟩
      by_cases y : i = k
      · subst y; exact Nat.le_refl _
      · have := h1 i (by omega); omega
    · rw [if_neg z]
      refine ⟨fun i hi => ?_, h2.imp id (fun ⟨i, a, b⟩ => ⟨i, by omega, b⟩)⟩
      by_cases y : i = k
      · subst y; omega
      · exact h1 i (by omega)
theorem mxA_eq {fit : Nat → Bool} {g A : Nat → Int32} (h : ∀ u, u < 64 → fit u = true → A (cfN fit u) = g u) : mxA A (cfN fit 64) (cfN fit 64) = gpt fit g 64 := by
  refine PRT.uni (fit := fit) (g := g) (k := 64) ?_ (gpt_prt fit g 64)
  obtain ⟨s1, s2⟩ := mxA_spec A (cfN fit 64) (cfN fit 64)
  constructor
  · intro x
    by_cases z : 0 < cpx fit g 64 x
    · obtain ⟨u, u1, u2, u3⟩ := cpx_pos fit g 64 x z
      have := s1 (cfN fit u) (cfN_lt u1 u2)
      rw [h u u1 u2, arr_cnt h _ 64 (by omega), u3] at this
      exact this
    · omega
  · rcases s2 with e | ⟨i, i1, i2⟩
    · exact Or.inl e
    · obtain ⟨u, u1, u2, u3⟩ := cfN_surj fit 64 i i1
      refine Or.inr ⟨u, u1, u2, ?_⟩
      rw [← i2, ← u3, h u u1 u2, arr_cnt h _ 64 (by omega)]
section AK
variable {Θ : GP} {S S0 : PZ} {ω : OW} {n : Nat} {w : Nat → Int32} {lw : LW} {fit : Nat → Bool}
/-- the class's greatest part -/
theorem x_part_L {g : Nat → Int32} {s : Nat} (hs : s < 10) (h4 : ∀ u, u < 64 → zA S 4 u = b01 (fit u)) (h5 : ∀ u, u < 64 → zA S 5 (10 * u + s) = g u) (hg : ∀ u, u < 64 → Rg (g u) 380) : ∀ (m k f : Nat) (h : Nat → Int32), k + m = 64 → m < f → (∀ x, x ≤ 380 → h x = nI (cpx fit g k (nI x))) → ∃ h', L_X7_greatestPart_12 Θ f (gb Θ + 3) (nI s) (nI (gpt fit g k)) (nI k) (laz Θ (uA S 6 h) ω) n = some (.inl (some (.int (nI (gpt fit g 64))), laz Θ (uA S 6 h') ω, n)) := by
  intro m
  induction m with
  | zero =>
    intro k f h h1 h2 hh
    obtain ⟨f, rfl⟩ : ∃ g, f = g + 1 := ⟨f - 1, by omega⟩
    have hk : k = 64 := by omega
    refine ⟨h, ?_⟩
    unfold L_X7_greatestPart_12 B_X7_greatestPart_12
    rw [if_pos (show (64 : Int32) ≤ nI k from nI_le (a := 64) (by omega) (by omega)), hk]
  | succ m ih =>
    intro k f h h1 h2 hh
    obtain ⟨f, rfl⟩ : ∃ g, f = g + 1 := ⟨f - 1, by omega⟩
    obtain ⟨x, hx, ex⟩ := hg k (by omega)
    have eg : gpt fit g (k + 1) = if fit k = true then (if gpt fit g k < cpx fit g k (g k) + 1 then cpx fit g k (g k) + 1 else gpt fit g k) else gpt fit g k := rfl
    have ec : ∀ y, cpx fit g (k + 1) y = cpx fit g k y + (if fit k = true ∧ g k = y then 1 else 0) := fun _ => rfl
    have l1 := gpt_le fit g k
    have l2 := cpx_le fit g k (g k)
    rw [show L_X7_greatestPart_12 Θ (f + 1) (gb Θ + 3) (nI s) (nI (gpt fit g k)) (nI k) (laz Θ (uA S 6 h) ω) n = B_X7_greatestPart_12 Θ (L_X7_greatestPart_12 Θ f) (gb Θ + 3) (nI s) (nI (gpt fit g k)) (nI k) (laz Θ (uA S 6 h) ω) n from rfl]
    unfold B_X7_greatestPart_12 J_X7_greatestPart_76
    rw [if_neg (show ¬ (64 : Int32) ≤ nI k from nI_ge (b := 64) (by omega) (by omega)), a3_1, show nI k * 10 + nI s = nI (10 * k + s) by rw [show nI k * 10 = nI (k * 10) from nI_mul k 10, nI_add, Nat.mul_comm], l_5 (by omega), zA_ne _ _ (show 5 ≠ 6 by decide), h5 k (by omega), a3_0, l_4 (by omega), zA_ne _ _ (show 4 ≠ 6 by decide), h4 k (by omega), nI_1]
    cases hf : fit k with
    | false =>
      rw [if_pos (show b01 false = 0 from rfl)]
      have := ih (k + 1) f h (by omega) (by omega) (fun y hy => by rw [hh y hy, ec, if_neg (fun u => by rw [hf] at u; cases u.1), Nat.add_zero])
      rw [eg, if_neg (by rw [hf]; decide)] at this
      exact this
    | true =>
      have key : ∀ y, y ≤ 380 → upd h x (nI (cpx fit g k (g k) + 1)) y = nI (cpx fit g (k + 1) (nI y)) := by
        intro y hy
        rw [ec]
        by_cases z : y = x
        · subst z; rw [upd_same, ex, if_pos ⟨hf, rfl⟩]
        · rw [upd_ne _ _ z, hh y hy, if_neg (fun u => z (by have := u.2; rw [ex] at this; exact ((nI_eq (by omega) (by omega)).mp this).symm)), Nat.add_zero]
      have hx' : h x = nI (cpx fit g k (g k)) := by rw [hh x hx, ex]
      obtain ⟨h', e'⟩ := ih (k + 1) f (upd h x (nI (cpx fit g k (g k) + 1))) (by omega) (by omega) key
      refine ⟨h', ?_⟩
      rw [if_neg (show ¬ b01 true = 0 by decide), ex, if_neg (nI_pos (by omega)), if_neg (show ¬ (380 : Int32) < nI x from nI_nlt (a := 380) hx (by omega)), a3_2, l_6 (by omega), zA_eq, hx', nI_1, s_6 (by omega), uA_uA, zA_eq, a3_2, l_6 (by omega), zA_eq, upd_same, ← e', eg, if_pos hf]
      by_cases y : gpt fit g k < cpx fit g k (g k) + 1
      · rw [if_pos y, if_pos (nI_lt y (by omega))]
      · rw [if_neg y, if_neg (nI_nlt (by omega) (by omega))]
theorem x_part {g : Nat → Int32} {s : Nat} (hs : s < 10) (h4 : ∀ u, u < 64 → zA S 4 u = b01 (fit u)) (h5 : ∀ u, u < 64 → zA S 5 (10 * u + s) = g u) (hg : ∀ u, u < 64 → Rg (g u) 380) : ∃ h', F_X7_greatestPart Θ (gb Θ + 3) (nI s) (laz Θ S ω) n = some (.inl (some (.int (nI (gpt fit g 64))), laz Θ (uA S 6 h') ω, n)) := by
  obtain ⟨h', e⟩ := x_part_L (Θ := Θ) (S := S) (ω := ω) (n := n) hs h4 h5 hg 64 0 5000 (fun j => if 0 ≤ j ∧ j < alz 6 then 0 else zA S 6 j) (by omega) (by omega) (fun x hx => by rw [if_pos ⟨by omega, by show x < 381; omega⟩]; rfl)
  have e : L_X7_greatestPart_12 Θ 5000 (gb Θ + 3) (nI s) 0 0 (laz Θ (uA S 6 (fun j => if 0 ≤ j ∧ j < alz 6 then 0 else zA S 6 j)) ω) n = _ := e
  refine ⟨h', ?_⟩
  unfold F_X7_greatestPart
  rw [a3_2, x_fill (k := 6) (by decide) (by decide) 0, kV_v, e]
/-- a slot by which those are parted -/
def as1 (w : Nat → Int32) (fit : Nat → Bool) (gg : Nat → Nat → Int32) (s : Nat) (q : Int32 × Int32) : Int32 × Int32 := if ¬ pin w (nI s) = -1 ∧ nI (gpt fit (gg s) 64) < q.2 then (nI s, nI (gpt fit (gg s) 64)) else q
def asS (w : Nat → Int32) (fit : Nat → Bool) (gg : Nat → Nat → Int32) : Nat → Nat → Int32 × Int32 → Int32
  | 0, _, q => q.1
  | k + 1, s, q => asS w fit gg k (s + 1) (as1 w fit gg s q)
theorem as1_I {gg : Nat → Nat → Int32} {s : Nat} (hs : s < 10) {q : Int32 × Int32} (h : brI q) : brI (as1 w fit gg s q) := by
  unfold as1
  split
  · have := gpt_le fit (gg s) 64
    exact Or.inr ⟨fun u => ((q_m1 (by omega)).mp u).elim, gpt fit (gg s) 64, by omega, rfl⟩
  · exact h
theorem x_best_L {gg : Nat → Nat → Int32} (h8 : cP w ≤ 8) (hg : ∀ s, s < 10 → ∀ u, u < 64 → Rg (gg s u) 380) : ∀ (k s f : Nat) (q : Int32 × Int32) (S : PZ), s + k = 10 → k < f → brI q → (∀ t, t < 10 → zA S 19 t = pin w (nI t)) → (∀ u, u < 64 → zA S 4 u = b01 (fit u)) → (∀ t, t < 10 → ∀ u, u < 64 → zA S 5 (10 * u + t) = gg t u) → ∃ S', L_X7_bestSlot_17 Θ f (gb Θ + 3) (gb Θ + 19) q.1 (if q.1 = -1 then 0 else q.2) (nI s) (laz Θ S ω) n = some (.inl (some (.int (asS w fit gg k s q)), laz Θ S' ω, n)) ∧ KS S S' := by
  intro k
  induction k with
  | zero =>
    intro s f q S h1 h2 hq h19 h4 h5
    obtain ⟨f, rfl⟩ : ∃ g, f = g + 1 := ⟨f - 1, by omega⟩
    refine ⟨S, ?_, KS.rf S⟩
    rw [show L_X7_bestSlot_17 Θ (f + 1) (gb Θ + 3) (gb Θ + 19) q.1 (if q.1 = -1 then 0 else q.2) (nI s) (laz Θ S ω) n = B_X7_bestSlot_17 Θ (L_X7_bestSlot_17 Θ f) (gb Θ + 3) (gb Θ + 19) q.1 (if q.1 = -1 then 0 else q.2) (nI s) (laz Θ S ω) n from rfl]
    unfold B_X7_bestSlot_17
    rw [if_pos (show (10 : Int32) ≤ nI s from nI_le (a := 10) (by omega) (by omega))]
    rfl
  | succ k ih =>
    intro s f q S h1 h2 hq h19 h4 h5
    obtain ⟨f, rfl⟩ : ∃ g, f = g + 1 := ⟨f - 1, by omega⟩
    have hs : s < 10 := by omega
    have hq' := as1_I (w := w) (fit := fit) (gg := gg) hs hq
    have ho := gpt_le fit (gg s) 64
    have hns : ¬ nI s = -1 := by rw [q_m1 (by omega)]; exact id
    rw [show L_X7_bestSlot_17 Θ (f + 1) (gb Θ + 3) (gb Θ + 19) q.1 (if q.1 = -1 then 0 else q.2) (nI s) (laz Θ S ω) n = B_X7_bestSlot_17 Θ (L_X7_bestSlot_17 Θ f) (gb Θ + 3) (gb Θ + 19) q.1 (if q.1 = -1 then 0 else q.2) (nI s) (laz Θ S ω) n from rfl, show asS w fit gg (k + 1) s q = asS w fit gg k (s + 1) (as1 w fit gg s q) from rfl]
    unfold B_X7_bestSlot_17 J_X7_bestSlot_50 J_X7_bestSlot_56
    rw [if_neg (show ¬ (10 : Int32) ≤ nI s from nI_ge (b := 10) (by omega) (by omega)), l_19 hs, h19 s hs, nI_1]
    by_cases z : pin w (nI s) = -1
    · have e : as1 w fit gg s q = q := if_neg (fun u => u.1 z)
      rw [if_pos ((pin_neg h8).mpr z), e]
      exact ih (s + 1) f q S (by omega) (by omega) hq h19 h4 h5
    · obtain ⟨h', e1⟩ := x_part (Θ := Θ) (S := S) (ω := ω) (n := n) hs h4 (h5 s hs) (hg s hs)
      have go : ∀ q2, brI q2 → ∃ S', L_X7_bestSlot_17 Θ f (gb Θ + 3) (gb Θ + 19) q2.1 (if q2.1 = -1 then 0 else q2.2) (nI (s + 1)) (laz Θ (uA S 6 h') ω) n = some (.inl (some (.int (asS w fit gg k (s + 1) q2)), laz Θ S' ω, n)) ∧ KS S S' := fun q2 b2 => by
        obtain ⟨S', e, ks⟩ := ih (s + 1) f q2 (uA S 6 h') (by omega) (by omega) b2 (by rw [zA_ne _ _ (show 19 ≠ 6 by decide)]; exact h19) (by rw [zA_ne _ _ (show 4 ≠ 6 by decide)]; exact h4) (by rw [zA_ne _ _ (show 5 ≠ 6 by decide)]; exact h5)
        exact ⟨S', e, ((KS.rf S).nA (by omega)).trans ks⟩
      have updq : nI (gpt fit (gg s) 64) < q.2 → ∃ S', L_X7_bestSlot_17 Θ f (gb Θ + 3) (gb Θ + 19) (nI s) (nI (gpt fit (gg s) 64)) (nI (s + 1)) (laz Θ (uA S 6 h') ω) n = some (.inl (some (.int (asS w fit gg k (s + 1) (as1 w fit gg s q))), laz Θ S' ω, n)) ∧ KS S S' := by
        intro hlt
        have e : as1 w fit gg s q = (nI s, nI (gpt fit (gg s) 64)) := if_pos ⟨z, hlt⟩
        rw [e] at hq' ⊢
        have := go (nI s, nI (gpt fit (gg s) 64)) hq'
        rw [if_neg hns] at this
        exact this
      rw [if_neg (fun u => z ((pin_neg h8).mp u)), d3, e1, kI_v]
      by_cases y : q.1 = -1
      · rw [if_pos y]
        exact updq (brI_lt hq (by omega) y)
      · rw [if_neg y, if_neg y]
        by_cases v : q.2 ≤ nI (gpt fit (gg s) 64)
        · have e : as1 w fit gg s q = q := if_neg (fun u => q_nlt.mpr v u.2)
          rw [if_pos v, e]
          have := go q hq
          rw [if_neg y] at this
          exact this
        · rw [if_neg v]
          exact updq (Classical.byContradiction fun u => v (q_nlt.mp u))
/-- the reference's greatest part -/
theorem m_part17_L {K : Nat → Int32 → Int32 → Int32 → Int32 → OW → Nat → RO} {A : Nat → Int32} {s M k : Nat} {l3 : Int32} (hs : s < 10) (hM64 : M ≤ 64) (hk : k < M) (hA : ∀ j, j < M → zA S 233 (10 * j + s) = A j) : ∀ (m j f : Nat), j + m = M → m < f → L_X11_greatestPart_17 Θ K f (gb Θ + 218) (nI M) (nI s) l3 (nI k) (nI (sPf (fun i => if A i = A k then 1 else 0) j)) (nI j) (laz Θ S ω) n = K (gb Θ + 218) (nI M) (nI s) (if l3 < nI (sPf (fun i => if A i = A k then 1 else 0) M) then nI (sPf (fun i => if A i = A k then 1 else 0) M) else l3) (nI (k + 1)) (laz Θ S ω) n := by
  have ei : ∀ j, j < M → (10 : Int32) * nI j + nI s = nI (10 * j + s) := fun j _ => by rw [show (10 : Int32) * nI j = nI (10 * j) from nI_mul 10 j, nI_add]
  intro m
  induction m with
  | zero =>
    intro j f h1 h2
    obtain ⟨f, rfl⟩ : ∃ g, f = g + 1 := ⟨f - 1, by omega⟩
    have hj : j = M := by omega
    subst hj
    unfold L_X11_greatestPart_17 B_X11_greatestPart_17
    rw [if_pos (nI_le (by omega) (by omega)), nI_1]
  | succ m ih =>
    intro j f h1 h2
    obtain ⟨f, rfl⟩ : ∃ g, f = g + 1 := ⟨f - 1, by omega⟩
    have e := ih (j + 1) f (by omega) (by omega)
    rw [show L_X11_greatestPart_17 Θ K (f + 1) (gb Θ + 218) (nI M) (nI s) l3 (nI k) (nI (sPf (fun i => if A i = A k then 1 else 0) j)) (nI j) (laz Θ S ω) n = B_X11_greatestPart_17 Θ K (L_X11_greatestPart_17 Θ K f) (gb Θ + 218) (nI M) (nI s) l3 (nI k) (nI (sPf (fun i => if A i = A k then 1 else 0) j)) (nI j) (laz Θ S ω) n from rfl, ← e]
    unfold B_X11_greatestPart_17 J_X11_greatestPart_57
    rw [if_neg (nI_ge (by omega) (by omega)), a218_37, ei j (by omega), l_233 (by omega), hA j (by omega), a218_37, ei k hk, l_233 (by omega), hA k hk, nI_1, show sPf (fun i => if A i = A k then 1 else 0) (j + 1) = sPf (fun i => if A i = A k then 1 else 0) j + (if A j = A k then 1 else 0) from rfl]
    by_cases z : A j = A k
    · rw [if_pos z, if_pos z, nI_1]
    · rw [if_neg z, if_neg z, Int32.add_zero, nI_1, Nat.add_zero (sPf (fun i => if A i = A k then 1 else 0) j)]
theorem sPf_01 (P : Nat → Bool) : ∀ k, sPf (fun i => if P i = true then 1 else 0) k ≤ k := by
  intro k
  induction k with
  | zero => exact Nat.le_refl _
  | succ k ih =>
    show sPf (fun i => if P i = true then 1 else 0) k + (if P k = true then 1 else 0) ≤ _
    split <;> omega
theorem m_part5_L {A : Nat → Int32} {s M : Nat} (hs : s < 10) (hM64 : M ≤ 64) (hA : ∀ j, j < M → zA S 233 (10 * j + s) = A j) : ∀ (m k f : Nat), k + m = M → m < f → L_X11_greatestPart_5 Θ f (gb Θ + 218) (nI M) (nI s) (nI (mxA A M k)) (nI k) (laz Θ S ω) n = some (.inl (some (.int (nI (mxA A M M))), laz Θ S ω, n)) := by
  have hb : ∀ y, sPf (fun i => if A i = y then 1 else 0) M ≤ M := fun y => by
    have := sPf_01 (fun i => decide (A i = y)) M
    have e : sPf (fun i => if A i = y then 1 else 0) M = sPf (fun i => if decide (A i = y) = true then 1 else 0) M := sPf_congr M (fun i _ => by
      by_cases z : A i = y
      · rw [if_pos z, if_pos (decide_eq_true z)]
      · rw [if_neg z, if_neg (by rw [decide_eq_false z]; decide)])
    omega
  have hmx : ∀ k, mxA A M k ≤ M := fun k => by
    rcases (mxA_spec A M k).2 with e | ⟨i, _, e⟩
    · omega
    · rw [← e]; exact hb _
  intro m
  induction m with
  | zero =>
    intro k f h1 h2
    obtain ⟨f, rfl⟩ : ∃ g, f = g + 1 := ⟨f - 1, by omega⟩
    have hk : k = M := by omega
    rw [hk]
    unfold L_X11_greatestPart_5 B_X11_greatestPart_5
    rw [if_pos (nI_le (by omega) (by omega))]
  | succ m ih =>
    intro k f h1 h2
    obtain ⟨f, rfl⟩ : ∃ g, f = g + 1 := ⟨f - 1, by omega⟩
    have e := ih (k + 1) f (by omega) (by omega)
    have e17 := m_part17_L (Θ := Θ) (S := S) (ω := ω) (n := n) (K := L_X11_greatestPart_5 Θ f) (l3 := nI (mxA A M k)) hs hM64 (show k < M by omega) hA M 0 5000 (by omega) (by omega)
    have e17 : L_X11_greatestPart_17 Θ (L_X11_greatestPart_5 Θ f) 5000 (gb Θ + 218) (nI M) (nI s) (nI (mxA A M k)) (nI k) 0 0 (laz Θ S ω) n = _ := e17
    rw [show L_X11_greatestPart_5 Θ (f + 1) (gb Θ + 218) (nI M) (nI s) (nI (mxA A M k)) (nI k) (laz Θ S ω) n = B_X11_greatestPart_5 Θ (L_X11_greatestPart_5 Θ f) (gb Θ + 218) (nI M) (nI s) (nI (mxA A M k)) (nI k) (laz Θ S ω) n from rfl]
    unfold B_X11_greatestPart_5
    rw [if_neg (nI_ge (by omega) (by omega)), e17, ← e]
    have b1 := hb (A k)
    have b2 := hmx k
    show L_X11_greatestPart_5 Θ f (gb Θ + 218) (nI M) (nI s) _ (nI (k + 1)) (laz Θ S ω) n = L_X11_greatestPart_5 Θ f (gb Θ + 218) (nI M) (nI s) (nI (if mxA A M k < sPf (fun j => if A j = A k then 1 else 0) M then sPf (fun j => if A j = A k then 1 else 0) M else mxA A M k)) (nI (k + 1)) (laz Θ S ω) n
    by_cases z : mxA A M k < sPf (fun j => if A j = A k then 1 else 0) M
    · rw [if_pos z, if_pos (nI_lt z (by omega))]
    · rw [if_neg z, if_neg (nI_nlt (by omega) (by omega))]
theorem m_ask103_L {gg : Nat → Nat → Int32} {M : Nat} (hw : zA S 219 = w) (hW : WB w) (hM1 : 1 < M) (hM64 : M ≤ 64) (hM : M = cfN fit 64) (hA : ∀ u, u < 64 → fit u = true → ∀ s, s < 10 → zA S 233 (10 * cfN fit u + s) = gg s u) : ∀ (k s f : Nat) (q : Int32 × Int32), s + k = 10 → k < f → brI q → L_X11_ask_103 Θ f (gb Θ + 218) (nI M) q.1 q.2 (nI s) (laz Θ S ω) n = some (.inl (some (.int (asS w fit gg k s q)), laz Θ S ω, n)) := by
  intro k
  induction k with
  | zero =>
    intro s f q h1 h2 hq
    obtain ⟨f, rfl⟩ : ∃ g, f = g + 1 := ⟨f - 1, by omega⟩
    unfold L_X11_ask_103 B_X11_ask_103 J_X11_ask_169
    rw [if_pos (show (10 : Int32) ≤ nI s from nI_le (a := 10) (by omega) (by omega))]
    rfl
  | succ k ih =>
    intro s f q h1 h2 hq
    obtain ⟨f, rfl⟩ : ∃ g, f = g + 1 := ⟨f - 1, by omega⟩
    have hs : s < 10 := by omega
    have hq' := as1_I (w := w) (fit := fit) (gg := gg) hs hq
    rw [show L_X11_ask_103 Θ (f + 1) (gb Θ + 218) (nI M) q.1 q.2 (nI s) (laz Θ S ω) n = B_X11_ask_103 Θ (L_X11_ask_103 Θ f) (gb Θ + 218) (nI M) q.1 q.2 (nI s) (laz Θ S ω) n from rfl, show asS w fit gg (k + 1) s q = asS w fit gg k (s + 1) (as1 w fit gg s q) from rfl]
    unfold B_X11_ask_103 J_X11_ask_138 J_X11_ask_153
    rw [if_neg (show ¬ (10 : Int32) ≤ nI s from nI_ge (b := 10) (by omega) (by omega)), if_neg (show ¬ nI M ≤ 1 from nI_ge (a := 1) hM1 (by omega)), d218, m_propIn' hw hW, kI_v, nI_1]
    by_cases z : pin w (nI s) = -1
    · have e : as1 w fit gg s q = q := if_neg (fun u => u.1 z)
      rw [if_pos z, e, if_pos (brI_le hq).1, if_neg (brI_le hq).2]
      exact ih (s + 1) f q (by omega) (by omega) hq
    · have ep : F_X11_greatestPart Θ (gb Θ + 218) (nI M) (nI s) (laz Θ S ω) n = some (.inl (some (.int (nI (gpt fit (gg s) 64))), laz Θ S ω, n)) := by
        have := m_part5_L (Θ := Θ) (S := S) (ω := ω) (n := n) (A := fun j => zA S 233 (10 * j + s)) hs hM64 (fun _ _ => rfl) M 0 5000 (by omega) (by omega)
        have e2 : mxA (fun j => zA S 233 (10 * j + s)) M M = gpt fit (gg s) 64 := by
          rw [hM]
          exact mxA_eq (fun u hu hf => hA u hu hf s hs)
        rw [e2] at this
        exact this
      rw [if_neg z, d218, ep, kI_v]
      by_cases v : q.2 ≤ nI (gpt fit (gg s) 64)
      · have hn : ¬ nI (gpt fit (gg s) 64) < q.2 := q_nlt.mpr v
        have e : as1 w fit gg s q = q := if_neg (fun u => hn u.2)
        rw [if_pos v, if_neg hn, e]
        exact ih (s + 1) f q (by omega) (by omega) hq
      · have hn : nI (gpt fit (gg s) 64) < q.2 := Classical.byContradiction fun u => v (q_nlt.mp u)
        have e : as1 w fit gg s q = (nI s, nI (gpt fit (gg s) 64)) := if_pos ⟨z, hn⟩
        rw [e] at hq'
        rw [if_neg v, if_pos hn, e]
        exact ih (s + 1) f (nI s, nI (gpt fit (gg s) 64)) (by omega) (by omega) hq'
end AK
