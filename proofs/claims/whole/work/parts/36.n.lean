/-! one's ride that is laid on: what both sides have then -/
theorem nI_or (a b : Nat) : nI a ||| nI b = nI (a ||| b) := Int32.toBitVec_inj.mp (by rw [Int32.toBitVec_or]; exact (BitVec.ofNat_or).symm)
theorem Rg.or {x y : Int32} (hx : Rg x 255) (hy : Rg y 255) : Rg (x ||| y) 255 := by
  obtain ⟨a, ha, rfl⟩ := hx
  obtain ⟨b, hb, rfl⟩ := hy
  have := Nat.or_lt_two_pow (show a < 2 ^ 8 by omega) (show b < 2 ^ 8 by omega)
  exact ⟨a ||| b, by omega, nI_or a b⟩
theorem bit_rg : ∀ p, p < 8 → (1 : Int32) <<< (nI p &&& 31) = nI (2 ^ p) := by decide +kernel
theorem cmB_rg {c : RPar} (h : ROK c) (q : RSt) : ∀ k, k ≤ 10 → Rg (cmB c q k) 255 := by
  have h8 := h.1.P8
  intro k
  induction k with
  | zero => intro _; exact ⟨0, by omega, rfl⟩
  | succ k ih =>
    intro hk
    unfold cmB
    split
    · rename_i z
      obtain ⟨a1, a2, a3⟩ := h.pr (show k < 10 by omega) z.2
      have := Nat.pow_le_pow_right (show 0 < 2 by omega) (show rpr c k ≤ 7 by omega)
      exact (ih (by omega)).or ⟨2 ^ rpr c k, by omega, by rw [a2]; exact bit_rg _ (by omega)⟩
    · exact ih (by omega)
theorem wW_ne (c : RPar) (q : RSt) (a : Nat) (sd : Int32) {i : Nat} (h8 : i ≠ 8) (h : i % 4 ≠ 3 ∨ i < 11) : wW c q a sd i = c.1 i := by
  unfold wW
  rw [upd_ne _ _ (by omega), upd_ne _ _ h8, wkS_ne4 c q h]
theorem wW_hi {c : RPar} (h : ROK c) (q : RSt) (a : Nat) (sd : Int32) {i : Nat} (h8 : 43 ≤ i) (hi : i ≠ 4 * a + 43) : wW c q a sd i = c.1 i := by
  have h8 := h.1.P8
  unfold wW
  rw [upd_ne _ _ hi, upd_ne _ _ (by omega), wkS_hi h q (by omega) ten ten_le]
theorem wW_kn (c : RPar) (q : RSt) (a : Nat) (sd : Int32) : wW c q a sd (4 * a + 43) = c.1 (4 * a + 43) ||| cmB c q ten := upd_same _ _ _
theorem wW_8 (c : RPar) (q : RSt) (a : Nat) (sd : Int32) : wW c q a sd 8 = sd := by
  unfold wW
  rw [upd_ne _ _ (by omega), upd_same]
theorem wW_p {c : RPar} (q : RSt) (a : Nat) (sd : Int32) {p : Nat} (hp : p < 8) : wW c q a sd (4 * p + 11) = wkS c q ten (4 * p + 11) := by
  unfold wW
  rw [upd_ne _ _ (by omega), upd_ne _ _ (by omega)]
theorem wW_cP (c : RPar) (q : RSt) (a : Nat) (sd : Int32) : cP (wW c q a sd) = cP c.1 := congrArg Int32.toNatClampNeg (wW_ne c q a sd (by decide) (by decide))
theorem wW_cO (c : RPar) (q : RSt) (a : Nat) (sd : Int32) : cO' (wW c q a sd) = cO' c.1 := congrArg Int32.toNatClampNeg (wW_ne c q a sd (by decide) (by decide))
theorem wW_wb {c : RPar} (h : ROK c) (q : RSt) {a : Nat} (ha : a < 6) (sd : Int32) : WB (wW c q a sd) := by
  refine (w8_wb (wkS_wb h q ten ten_le) sd).put (by omega) (by omega) (by omega) (by omega) (by omega) (fun p hp => ⟨by omega, by omega, by omega, by omega⟩) (fun b hb => ⟨by omega, by omega, fun _ => ?_, by omega⟩)
  exact (h.1.2.2.2.2.2.2.2.2.1 a ha).2.2.1.or (cmB_rg h q ten ten_le)
theorem wW_law {c : RPar} (h : ROK c) (q : RSt) {a : Nat} (ha : a < 6) (sd : Int32) : LawM (wW c q a sd) c.2.1 := h.2.1.congr (fun i hi => by
  rcases hi with hi | rfl
  · exact wW_hi h q a sd (by omega) (by omega)
  · exact wW_ne c q a sd (by omega) (by omega))
theorem wW_pin {c : RPar} (h : ROK c) (q : RSt) (a : Nat) (sd : Int32) (s : Int32) : pin (wW c q a sd) s = pin c.1 s := by
  have h8 := h.1.P8
  exact pin_congr (wW_ne c q a sd (by decide) (by decide)) (fun q' hq => by rw [wW_ne _ _ _ _ (by omega) (by omega)])
/-- a court with the same props serves the ride as well -/
theorem RX.world {Θ : GP} {S : PZ} {ω : OW} {R : Nat} {w w' : Nat → Int32} {d : LW × (Nat → Int32) × (Nat → Bool) × Int32 × Int32 × Int32 × Bool × Bool} (h : RX Θ S ω R (w, d)) (hO : ROK (w', d)) (h0 : cP w' = cP w) (h5 : w' 5 = w 5) (hp : ∀ p, p < cP w → w' (4 * p + 9) = w (4 * p + 9) ∧ w' (4 * p + 10) = w (4 * p + 10) ∧ w' (4 * p + 11) = w (4 * p + 11)) : RX Θ S ω R (w', d) := by
  obtain ⟨r1, r2, r3, r4, r5, r6, r7, r8, r9⟩ := h
  refine ⟨hO, r2, r3.trans h5.symm, fun p hp' => ?_, r5, r6, r7, r8, r9⟩
  have hp' : p < cP w' := hp'
  rw [h0] at hp'
  obtain ⟨a1, a2, a3⟩ := hp p hp'
  obtain ⟨b1, b2, b3⟩ := r4 p hp'
  exact ⟨b1.trans a1.symm, b2.trans a2.symm, b3.trans a3.symm⟩
section WC
variable {Θ : GP} {S S0 : PZ} {ω : OW} {n : Nat} {w : Nat → Int32} {lw : LW} {a : Nat}
/-- one's ride worn on, the class -/
theorem x_wearC {dr : Bool} (ha : a < 6) (hW : WB w) (hM : LawM w lw) (hX : RX Θ S ω 202 (cPar w lw a dr false)) (sd sd' : Int32) (hb : ∀ j, j < 10 → zA S 205 j = bhS (cPar w lw a dr false) (-1, 0, sd) j) : ∃ S', F_X6_wearOn Θ (gb Θ + 202) (laz Θ S ω) n = some (.inl (none, laz Θ S' ω, n)) ∧ XL 202 S S' ∧ (∀ j, j ≠ 5 → zF S' 202 j = zF S 202 j) ∧ RX Θ S' ω 202 (cPar (wW (cPar w lw a dr false) (-1, 0, sd) a sd') lw a dr false) ∧ (∀ p, p < cP w → zA S' 204 p = wW (cPar w lw a dr false) (-1, 0, sd) a sd' (4 * p + 11)) ∧ zF S' 202 5 = wW (cPar w lw a dr false) (-1, 0, sd) a sd' (4 * a + 43) := by
  have hO := cPar_ok hW hM ha dr false
  have h8 := hW.P8
  obtain ⟨S', e, xl, hf, rx, hp, h5⟩ := x_wearOn (Θ := Θ) (S := S) (ω := ω) (n := n) hX (q := (-1, 0, sd)) rfl rfl hb
  refine ⟨S', e, xl, hf, ?_, fun p hp' => ?_, ?_⟩
  · have e1 : (cPar (wW (cPar w lw a dr false) (-1, 0, sd) a sd') lw a dr false) = (wW (cPar w lw a dr false) (-1, 0, sd) a sd', lw, (fun s => pin w (nI s)), (fun _ => false), w (4 * a + 42), w (4 * a + 43) ||| cmB (cPar w lw a dr false) (-1, 0, sd) ten, w (4 * a + 41), dr, false) := by
      unfold cPar
      have e2 : (fun s => pin (wW (cPar w lw a dr false) (-1, 0, sd) a sd') (nI s)) = (fun s => pin w (nI s)) := funext fun s => wW_pin hO _ a sd' (nI s)
      have e3 : wW (cPar w lw a dr false) (-1, 0, sd) a sd' (4 * a + 42) = w (4 * a + 42) := wW_ne _ _ a sd' (by omega) (by omega)
      have e4 : wW (cPar w lw a dr false) (-1, 0, sd) a sd' (4 * a + 41) = w (4 * a + 41) := wW_ne _ _ a sd' (by omega) (by omega)
      have e5 : wW (cPar w lw a dr false) (-1, 0, sd) a sd' (4 * a + 43) = w (4 * a + 43) ||| cmB (cPar w lw a dr false) (-1, 0, sd) ten := wW_kn _ _ a sd'
      unfold cPar at e2 e3 e4 e5
      rw [e2, e3, e4, e5]
    have hO' : ROK (cPar (wW (cPar w lw a dr false) (-1, 0, sd) a sd') lw a dr false) := cPar_ok (dr := dr) (te := false) (wW_wb hO (-1, 0, sd) ha sd') (wW_law hO (-1, 0, sd) ha sd') ha
    rw [e1] at hO' ⊢
    refine RX.world (w := wkS (cPar w lw a dr false) (-1, 0, sd) ten) rx hO' ?_ ?_ (fun p hp' => ⟨?_, ?_, ?_⟩)
    · rw [wW_cP, wkS_cP]
    · rw [wW_ne _ _ _ _ (by omega) (by omega), wkS_ne4 _ _ (by omega)]
    · rw [wW_ne _ _ _ _ (by omega) (by omega), wkS_ne4 _ _ (by omega)]
    · rw [wW_ne _ _ _ _ (by omega) (by omega), wkS_ne4 _ _ (by omega)]
    · rw [wkS_cP] at hp'
      have hp' : p < cP w := hp'
      exact wW_p _ a sd' (by omega)
  · rw [hp p hp', wW_p _ a sd' (by omega)]
  · rw [h5, wW_kn]
    rfl
end WC
