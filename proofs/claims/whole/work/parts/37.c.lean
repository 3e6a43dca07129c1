/-! two in one car: the class's way through the slots -/
def cst (c d : RPar) (e : Int32) (s : Nat) (q : (Int32 × Int32) × (Int32 × Int32)) : (Int32 × Int32) × (Int32 × Int32) :=
  (if (q.2.1 = -1 ∧ (caS d s q.2).1 ≠ -1) ∧ ¬ (q.1.1 = -1 ∧ (caS c s q.1).1 ≠ -1) then heS c.2.2.2.2.1 e s (caS c s q.1) else caS c s q.1, if (q.1.1 = -1 ∧ (caS c s q.1).1 ≠ -1) ∧ ¬ (q.2.1 = -1 ∧ (caS d s q.2).1 ≠ -1) then heS d.2.2.2.2.1 e s (caS d s q.2) else caS d s q.2)
def csL (c d : RPar) (e : Int32) : Nat → Nat → (Int32 × Int32) × (Int32 × Int32) → (Int32 × Int32) × (Int32 × Int32)
  | 0, _, q => q
  | m + 1, s, q => csL c d e m (s + 1) (cst c d e s q)
def csR (q : (Int32 × Int32) × (Int32 × Int32)) : Int32 := (if q.1.1 = -1 then 0 else 1) ||| (if q.2.1 = -1 then 0 else 2)
theorem caS_rg {c : RPar} (h : ROK c) {s : Nat} (hs : s < 10) {q : Int32 × Int32} {M : Nat} (ht : Rg q.2 M) (hM : M ≤ 9000) : Rg (caS c s q).2 (M + 382) := by
  unfold caS
  split
  · exact rte_rg h hs ht (by omega)
  · exact ht.le (by omega)
theorem heS_rg {nv e : Int32} {s : Nat} {q : Int32 × Int32} {M : Nat} (he : Rg e 20) (ht : Rg q.2 M) : Rg (heS nv e s q).2 (M + 20) := by
  unfold heS
  split
  · obtain ⟨a, ha, ea⟩ := ht
    obtain ⟨b, hb, eb⟩ := he
    exact ⟨a + b, by omega, by rw [ea, eb, nI_add]⟩
  · exact ht.le (by omega)
theorem cst_rg {c d : RPar} (hc : ROK c) (hd : ROK d) {e : Int32} (he : Rg e 20) {s : Nat} (hs : s < 10) {q : (Int32 × Int32) × (Int32 × Int32)} {M : Nat} (h1 : Rg q.1.2 M) (h2 : Rg q.2.2 M) (hM : M ≤ 9000) : Rg (cst c d e s q).1.2 (M + 402) ∧ Rg (cst c d e s q).2.2 (M + 402) := by
  have a1 := caS_rg hc hs h1 hM
  have a2 := caS_rg hd hs h2 hM
  unfold cst
  dsimp only
  refine ⟨?_, ?_⟩
  · split
    · exact (heS_rg he a1).le (by omega)
    · exact a1.le (by omega)
  · split
    · exact (heS_rg he a2).le (by omega)
    · exact a2.le (by omega)
/-- what does not move while two ride -/
def KC (Θ : GP) (S S' : PZ) : Prop := Kp S S' ∧ (Idle Θ S → Idle Θ S') ∧ (∀ j, zF S' 218 j = zF S 218 j)
theorem KC.rf (Θ : GP) (S : PZ) : KC Θ S S := ⟨KK.rf S, id, fun _ => rfl⟩
theorem KC.xr {Θ : GP} {S S' S'' : PZ} {R : Nat} (hR : isR R) (h : KC Θ S S') (x : XR R S' S'') : KC Θ S S'' := ⟨h.1.trans (x.kp hR), fun i => x.idle hR (h.2.1 i), fun j => (x.1 218 j (by rcases hR with rfl | rfl <;> omega)).trans (h.2.2 j)⟩
section CC
variable {Θ : GP} {S S0 : PZ} {ω : OW} {n : Nat} {c d : RPar}
theorem x_car_L (hc1 : c.2.2.2.2.2.2.2.1 = false) (hc2 : c.2.2.2.2.2.2.2.2 = false) (hd1 : d.2.2.2.2.2.2.2.1 = false) (hd2 : d.2.2.2.2.2.2.2.2 = false) {e : Int32} (he : Rg e 20) (h4 : zF S0 14 4 = e) : ∀ (m k f : Nat) (q : (Int32 × Int32) × (Int32 × Int32)) (S : PZ), k + m = 10 → m < f → KC Θ S0 S → CX Θ S ω 202 c q.1 → CX Θ S ω 208 d q.2 → Rg q.1.2 (402 * k) → Rg q.2.2 (402 * k) → ∃ S', L_X10_car_72 Θ f (gb Θ) (nI k) (laz Θ S ω) n = some (.inl (some (.int (csR (csL c d e m k q))), laz Θ S' ω, n)) ∧ KC Θ S0 S' := by
  have r1 : isR 202 := Or.inl rfl
  have r2 : isR 208 := Or.inr rfl
  intro m
  induction m with
  | zero =>
    intro k f q S h1 h2 kc x1 x2 g1 g2
    obtain ⟨f, rfl⟩ : ∃ g, f = g + 1 := ⟨f - 1, by omega⟩
    refine ⟨S, ?_, kc⟩
    unfold L_X10_car_72 B_X10_car_72 J_X10_car_170 J_X10_car_186
    rw [if_pos (show (10 : Int32) ≤ nI k from nI_le (a := 10) (by omega) (by omega)), r10_8, a202_8, x1.2.1]
    show _ = (some (.inl (some (.int (csR q)), laz Θ S ω, n)) : RO)
    unfold csR
    by_cases z : q.1.1 = -1
    · rw [if_pos z, if_pos z, r10_9, a208_8, x2.2.1]
      by_cases y : q.2.1 = -1
      · rw [if_pos y, if_pos y]
      · rw [if_neg y, if_neg y]
    · rw [if_neg z, if_neg z, r10_9, a208_8, x2.2.1]
      by_cases y : q.2.1 = -1
      · rw [if_pos y, if_pos y]
      · rw [if_neg y, if_neg y]
  | succ m ih =>
    intro k f q S h1 h2 kc x1 x2 g1 g2
    obtain ⟨f, rfl⟩ : ∃ g, f = g + 1 := ⟨f - 1, by omega⟩
    have hk : k < 10 := by omega
    have gg := cst_rg x1.1.1 x2.1.1 he hk g1 g2 (by omega)
    obtain ⟨S1, e1, y1, c1⟩ := x_carSlot (n := n) r1 x1 hc1 hc2 hk (g1.le (by omega))
    have d1 := x2.other r1 r2 (by decide) y1
    obtain ⟨S2, e2, y2, d2⟩ := x_carSlot (n := n) r2 d1 hd1 hd2 hk (g2.le (by omega))
    have c2 := c1.other r2 r1 (by decide) y2
    have k2 := (kc.xr r1 y1).xr r2 y2
    have z4 : ∀ T, KC Θ S0 T → zF T 14 4 = e := fun T t => (t.1.1 14 4 rfl).trans h4
    have go : ∀ T : PZ, KC Θ S0 T → CX Θ T ω 202 c (cst c d e k q).1 → CX Θ T ω 208 d (cst c d e k q).2 → ∃ S', L_X10_car_72 Θ f (gb Θ) (nI k + 1) (laz Θ T ω) n = some (.inl (some (.int (csR (csL c d e (m + 1) k q))), laz Θ S' ω, n)) ∧ KC Θ S0 S' := by
      intro T t a1 a2
      rw [nI_1]
      exact ih (k + 1) f (cst c d e k q) T (by omega) (by omega) t a1 a2 (gg.1.le (by omega)) (gg.2.le (by omega))
    rw [show L_X10_car_72 Θ (f + 1) (gb Θ) (nI k) (laz Θ S ω) n = B_X10_car_72 Θ (L_X10_car_72 Θ f) (gb Θ) (nI k) (laz Θ S ω) n from rfl]
    unfold B_X10_car_72 J_X10_car_123 J_X10_car_148
    rw [if_neg (show ¬ (10 : Int32) ≤ nI k from nI_ge (b := 10) (by omega) (by omega)), r10_8, d202, e1, kI_v, r10_9, d208, e2, kI_v]
    by_cases u1 : q.1.1 = -1 ∧ (caS c k q.1).1 ≠ -1
    · by_cases u2 : q.2.1 = -1 ∧ (caS d k q.2).1 ≠ -1
      · have ec : cst c d e k q = (caS c k q.1, caS d k q.2) := by
          unfold cst; rw [if_neg (fun y => y.2 u1), if_neg (fun y => y.2 u2)]
        rw [if_pos u1, if_pos u2, if_neg (show ¬ (1 : Int32) = 0 by decide), if_neg (show ¬ (1 : Int32) = 0 by decide)]
        exact go S2 k2 (by rw [ec]; exact c2) (by rw [ec]; exact d2)
      · have ec : cst c d e k q = (caS c k q.1, heS d.2.2.2.2.1 e k (caS d k q.2)) := by
          unfold cst; rw [if_neg (fun y => y.2 u1), if_pos ⟨u1, u2⟩]
        obtain ⟨S3, e3, y3, d3⟩ := x_carHear (n := n) r2 d2 k e
        have c3 := c2.other r2 r1 (by decide) y3
        rw [if_pos u1, if_neg u2, if_neg (show ¬ (1 : Int32) = 0 by decide), if_pos rfl, r10_9, r10_0, a14_4, z4 S2 k2, d208, e3, kV_v]
        exact go S3 (k2.xr r2 y3) (by rw [ec]; exact c3) (by rw [ec]; exact d3)
    · by_cases u2 : q.2.1 = -1 ∧ (caS d k q.2).1 ≠ -1
      · have ec : cst c d e k q = (heS c.2.2.2.2.1 e k (caS c k q.1), caS d k q.2) := by
          unfold cst; rw [if_pos ⟨u2, u1⟩, if_neg (fun y => u1 y.1)]
        obtain ⟨S3, e3, y3, c3⟩ := x_carHear (n := n) r1 c2 k e
        have d3 := d2.other r1 r2 (by decide) y3
        rw [if_neg u1, if_pos u2, if_pos rfl, if_neg (show ¬ (1 : Int32) = 0 by decide), if_pos rfl, r10_8, r10_0, a14_4, z4 S2 k2, d202, e3, kV_v]
        exact go S3 (k2.xr r1 y3) (by rw [ec]; exact c3) (by rw [ec]; exact d3)
      · have ec : cst c d e k q = (caS c k q.1, caS d k q.2) := by
          unfold cst; rw [if_neg (fun y => u2 y.1), if_neg (fun y => u1 y.1)]
        rw [if_neg u1, if_neg u2, if_pos rfl, if_pos rfl]
        exact go S2 k2 (by rw [ec]; exact c2) (by rw [ec]; exact d2)
end CC
