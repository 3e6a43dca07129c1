/-! a whole ride on the class's side -/
section XG
variable {Θ : GP} {S : PZ} {ω : OW} {n : Nat}
theorem x_fill_L {k N : Nat} (hk : kdz k = 20) (hN : N = alz k) (hb : N < 5000) {v : Int32} : ∀ (m p f : Nat) (g : Nat → Int32), p + m = N → m < f → L_J7_fill_53178_5 Θ f (gb Θ + k) v (nI p) (nI N) (laz Θ (uA S k g) ω) n = some (.inl (none, laz Θ (uA S k (fun j => if p ≤ j ∧ j < N then v else g j)) ω, n)) := by
  intro m
  induction m with
  | zero =>
    intro p f g h1 h2
    obtain ⟨f, rfl⟩ : ∃ g, f = g + 1 := ⟨f - 1, by omega⟩
    unfold L_J7_fill_53178_5 B_J7_fill_53178_5
    have e : (fun j => if p ≤ j ∧ j < N then v else g j) = g := by
      funext j; rw [if_neg (by omega)]
    rw [if_pos (nI_le (by omega) (by omega)), e]
  | succ m ih =>
    intro p f g h1 h2
    obtain ⟨f, rfl⟩ : ∃ g, f = g + 1 := ⟨f - 1, by omega⟩
    unfold L_J7_fill_53178_5 B_J7_fill_53178_5
    rw [if_neg (nI_ge (by omega) (by omega)), z_sI hk (by omega) (by omega), uA_uA, zA_eq, nI_1, ih (p + 1) f _ (by omega) (by omega)]
    congr 6
    funext j
    unfold upd
    by_cases hj : j = p
    · subst hj
      rw [if_neg (by omega), if_pos rfl, if_pos (by omega)]
    · by_cases hq : p ≤ j ∧ j < N
      · rw [if_pos (by omega), if_pos hq]
      · rw [if_neg (by omega), if_neg hj, if_neg hq]
theorem x_fill {k : Nat} (hk : kdz k = 20) (hb : alz k < 5000) (v : Int32) : F_J7_fill_53178 Θ (gb Θ + k) v (laz Θ S ω) n = some (.inl (none, laz Θ (uA S k (fun j => if 0 ≤ j ∧ j < alz k then v else zA S k j)) ω, n)) := by
  unfold F_J7_fill_53178
  rw [z_al hk]
  have e := x_fill_L (Θ := Θ) (S := S) (ω := ω) (n := n) hk rfl hb (v := v) (alz k) 0 5000 (zA S k) (by omega) (by omega)
  rw [uA_self] at e
  exact e
variable {R : Nat} {c : RPar}
/-- behind the first k slots -/
def XK (R : Nat) (S S' : PZ) (c : RPar) (q : RSt) (k : Nat) : Prop := XR R S S' ∧ zF S' R 8 = (rst c q k).1 ∧ zF S' R 9 = (rst c q k).2.1 ∧ zF S' R 7 = (rst c q k).2.2 ∧ zF S' R 12 = b01 c.2.2.2.2.2.2.2.1 ∧ zF S' R 13 = b01 c.2.2.2.2.2.2.2.2 ∧ (∀ j, j < 10 → zA S' (R + 3) j = if j < k then bhS c q j else -1) ∧ (∀ j, j < 10 → zA S' (R + 4) j = if j < k then fgS c q j else 0)
/-- behind a ride -/
def XO (R : Nat) (S S' : PZ) (c : RPar) (q : RSt) : Prop := XR R S S' ∧ zF S' R 8 = (rst c q 10).1 ∧ zF S' R 9 = (rst c q 10).2.1 ∧ zF S' R 7 = (rst c q 10).2.2 ∧ (∀ j, j < 10 → zA S' (R + 3) j = bhS c q j) ∧ (∀ j, j < 10 → zA S' (R + 4) j = fgS c q j)
theorem x_go_L (hR : isR R) {S0 : PZ} (h : RX Θ S0 ω R c) {q : RSt} (hq : q.2.1 = 0) : ∀ (m k f : Nat) (S : PZ), k + m = 10 → m < f → XK R S0 S c q k → ∃ S', L_X6_go_16 Θ f (gb Θ + R) (nI k) (laz Θ S ω) n = some (.inl (none, laz Θ S' ω, n)) ∧ XO R S0 S' c q := by
  obtain ⟨k0, k1, k2, k3, k4, k5⟩ := isR_kd hR
  intro m
  induction m with
  | zero =>
    intro k f S h1 h2 hk
    obtain ⟨f, rfl⟩ : ∃ g, f = g + 1 := ⟨f - 1, by omega⟩
    have : k = 10 := by omega
    subst this
    obtain ⟨x1, x2, x3, x4, x5, x6, x7, x8⟩ := hk
    refine ⟨S, ?_, x1, x2, x3, x4, fun j hj => ?_, fun j hj => ?_⟩
    · unfold L_X6_go_16 B_X6_go_16 J_X6_go_42
      rw [if_pos (by decide)]
    · rw [x7 j hj, if_pos hj]
    · rw [x8 j hj, if_pos hj]
  | succ m ih =>
    intro k f S h1 h2 hk
    obtain ⟨f, rfl⟩ : ∃ g, f = g + 1 := ⟨f - 1, by omega⟩
    obtain ⟨x1, x2, x3, x4, x5, x6, x7, x8⟩ := hk
    have pre : ∀ r, L_X6_go_16 Θ (f + 1) (gb Θ + R) (nI k) (laz Θ S ω) n = r ↔ (if (rst c q k).1 = -1 then cO (laz Θ S ω) (gb Θ + R) 6 (kI (F_X6_screamsIn Θ (gb Θ + R) (nI k) (laz Θ S ω) n) (fun x4 ω n => L_X6_go_16 Θ f (gb Θ + R) (nI k + 1) ω n)) else some (.inl (none, laz Θ S ω, n))) = r := by
      intro r
      rw [show L_X6_go_16 Θ (f + 1) (gb Θ + R) (nI k) (laz Θ S ω) n = B_X6_go_16 Θ (L_X6_go_16 Θ f) (gb Θ + R) (nI k) (laz Θ S ω) n from rfl]
      unfold B_X6_go_16 J_X6_go_42
      rw [if_neg (show ¬ (10 : Int32) ≤ nI k from nI_ge (b := 10) (by omega) (by omega)), r6_8 k0, x2]
    by_cases z : (rst c q k).1 = -1
    · obtain ⟨S1, e1, y⟩ := x_screamsIn (n := n) hR (h.xr hR x1) (show k < 10 by omega) ((rst_rg h.1 hq k (by omega)).le (by omega)) (x2.trans z) x3 x4 x5 x6
      have er : rst1 c k (-1, (rst c q k).2.1, (rst c q k).2.2) = rst c q (k + 1) := by
        show _ = rst1 c k (rst c q k)
        congr 1
        rw [← z]
      rw [er] at y e1
      obtain ⟨y1, y2, y3, y4, y5, y6, y7, y8⟩ := y
      suffices hk' : XK R S0 S1 c q (k + 1) by
        obtain ⟨S', e2, o⟩ := ih (k + 1) f S1 (by omega) (by omega) hk'
        refine ⟨S', (pre _).mpr ?_, o⟩
        rw [if_pos z, c6 k0, e1, kI_v, nI_1, e2]
      refine ⟨x1.trans y1, y2, y3, y4, y5.trans x5, y6.trans x6, ?_, ?_⟩
      · intro j hj
        rw [y7]
        unfold upd
        by_cases hjk : j = k
        · subst hjk
          rw [if_pos rfl, if_pos (by omega)]
          unfold bhS
          rw [if_pos z]
        · rw [if_neg hjk, x7 j hj]
          by_cases hl : j < k
          · rw [if_pos hl, if_pos (by omega)]
          · rw [if_neg hl, if_neg (by omega)]
      · intro j hj
        rw [y8]
        by_cases hjk : j = k
        · subst hjk
          rw [if_pos (show j < j + 1 by omega)]
          unfold fgS
          by_cases ht : c.2.2.1 j = -1
          · rw [if_pos ht, x8 j hj, if_neg (by omega), if_neg (fun w => w.2 ht)]
          · rw [if_neg ht, if_pos ⟨z, ht⟩, upd_same]
        · have e : (if c.2.2.1 k = -1 then zA S (R + 4) else upd (zA S (R + 4)) k (rfr c k (rst c q k).2.1)) j = zA S (R + 4) j := by
            split
            · rfl
            · exact upd_ne _ _ hjk
          rw [e, x8 j hj]
          by_cases hl : j < k
          · rw [if_pos hl, if_pos (by omega)]
          · rw [if_neg hl, if_neg (by omega)]
    · have es : ∀ j, k ≤ j → rst c q j = rst c q k := by
        intro j hj
        have := rst_stop c q z (j - k)
        rw [show k + (j - k) = j by omega] at this
        exact this
      refine ⟨S, (pre _).mpr (if_neg z), x1, by rw [es 10 (by omega)]; exact x2, by rw [es 10 (by omega)]; exact x3, by rw [es 10 (by omega)]; exact x4, fun j hj => ?_, fun j hj => ?_⟩
      · rw [x7 j hj]
        by_cases hl : j < k
        · rw [if_pos hl]
        · rw [if_neg hl]
          unfold bhS
          rw [es j (by omega), if_neg z]
      · rw [x8 j hj]
        by_cases hl : j < k
        · rw [if_pos hl]
        · rw [if_neg hl]
          unfold fgS
          rw [es j (by omega), if_neg (fun w => z w.1)]
theorem bz_b (b : Bool) (r : RO) : bz (b01 b) r = r := by
  cases b
  · exact bz_0 r
  · exact bz_1 r
/-- what the start of a ride leaves -/
theorem x_start (hR : isR R) : ∃ S', F_X6_start Θ (gb Θ + R) (laz Θ S ω) n = some (.inl (none, laz Θ S' ω, n)) ∧ XR R S S' ∧ zF S' R 8 = -1 ∧ zF S' R 9 = 0 ∧ zF S' R 7 = zF S R 7 ∧ zF S' R 12 = 0 ∧ zF S' R 13 = 0 ∧ (∀ j, j < 10 → zA S' (R + 3) j = -1) ∧ (∀ j, j < 10 → zA S' (R + 4) j = 0) := by
  obtain ⟨k0, k1, k2, k3, k4, k5⟩ := isR_kd hR
  obtain ⟨a1, a2, a3, a4, a5⟩ := isR_al hR
  unfold F_X6_start
  rw [w6_8 k0, w6_9 k0, w6_12 k0, w6_13 k0, r6_10 k0, x_fill k3 (by omega), kV_v, r6_11 k0, x_fill k4 (by omega), kV_v]
  refine ⟨_, rfl, ((((((XR.rf R S).nF (by omega)).nF (by omega)).nF (by omega)).nF (by omega)).nA (by omega)).nA (by omega), ?_, ?_, ?_, ?_, ?_, fun j hj => ?_, fun j hj => ?_⟩
  · rw [zF_uA, zF_uA, zF_ne _ _ (by omega), zF_ne _ _ (by omega), zF_ne _ _ (by omega), zF_eq]
  · rw [zF_uA, zF_uA, zF_ne _ _ (by omega), zF_ne _ _ (by omega), zF_eq]
  · rw [zF_uA, zF_uA, zF_ne _ _ (by omega), zF_ne _ _ (by omega), zF_ne _ _ (by omega), zF_ne _ _ (by omega)]
  · rw [zF_uA, zF_uA, zF_ne _ _ (by omega), zF_eq]
  · rw [zF_uA, zF_uA, zF_eq]
  · rw [zA_ne _ _ (by omega), zA_eq, if_pos ⟨by omega, by omega⟩]
  · rw [zA_eq, if_pos ⟨by omega, by omega⟩]
theorem x_go (hR : isR R) (h : RX Θ S ω R c) : ∃ S', F_X6_go Θ (gb Θ + R) (b01 c.2.2.2.2.2.2.2.1) (b01 c.2.2.2.2.2.2.2.2) (laz Θ S ω) n = some (.inl (none, laz Θ S' ω, n)) ∧ XO R S S' c (-1, 0, zF S R 7) := by
  obtain ⟨k0, k1, k2, k3, k4, k5⟩ := isR_kd hR
  obtain ⟨S1, e1, x1, x2, x3, x4, x5, x6, x7, x8⟩ := x_start (Θ := Θ) (S := S) (ω := ω) (n := n) hR
  unfold F_X6_go
  rw [c6 k0, e1, kV_v, bz_b, w6_12 k0, bz_b, w6_13 k0]
  refine x_go_L (Θ := Θ) (n := n) hR h (q := (-1, 0, zF S R 7)) rfl 10 0 5000 (uF (uF S1 R 12 (b01 c.2.2.2.2.2.2.2.1)) R 13 (b01 c.2.2.2.2.2.2.2.2)) (by omega) (by omega) ⟨(x1.nF (by omega)).nF (by omega), ?_, ?_, ?_, ?_, ?_, ?_, ?_⟩
  · rw [zF_ne _ _ (by omega), zF_ne _ _ (by omega), x2]; rfl
  · rw [zF_ne _ _ (by omega), zF_ne _ _ (by omega), x3]; rfl
  · rw [zF_ne _ _ (by omega), zF_ne _ _ (by omega), x4]; rfl
  · rw [zF_ne _ _ (by omega), zF_eq]
  · rw [zF_eq]
  · intro j hj
    rw [if_neg (by omega), zA_uF, zA_uF, x7 j hj]
  · intro j hj
    rw [if_neg (by omega), zA_uF, zA_uF, x8 j hj]
end XG
