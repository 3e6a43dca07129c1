/-! a whole ride on the reference's side; both begun from a call -/
/-- the props come to in the first k slots -/
def cmB (c : RPar) (q : RSt) : Nat → Int32
  | 0 => 0
  | k + 1 => if (rst c q k).1 = -1 ∧ c.2.2.1 k ≠ -1 then cmB c q k ||| (1 <<< (c.2.2.1 k &&& 31)) else cmB c q k
def woS (c : RPar) (q : RSt) (f : Nat → Int32) (k : Nat) : Prop := ∀ j, j < k → (rst c q j).1 = -1 → c.2.2.1 j ≠ -1 → f (rpr c j) = weS c.2.1 (rfc c j (rst c q j).2.1)
def MK (S S' : PZ) (c : RPar) (q : RSt) (k : Nat) : Prop := XQ S S' ∧ zF S' 218 28 = (rst c q k).1 ∧ zF S' 218 30 = (rst c q k).2.1 ∧ zA S' 219 = upd c.1 8 (rst c q k).2.2 ∧ (∀ j, j < k → zA S' 227 j = bhS c q j ∧ zA S' 228 j = fgS c q j) ∧ zF S' 218 29 = cmB c q k ∧ woS c q (zA S' 229) k
/-- a prop is in one slot -/
theorem ROK.inj {c : RPar} (h : ROK c) {i j : Nat} (hi : i < 10) (hj : j < 10) (ni : c.2.2.1 i ≠ -1) (nj : c.2.2.1 j ≠ -1) (e : rpr c i = rpr c j) : i = j := by
  have h8 := h.1.P8
  rcases h.2.2.1 i hi with z | ⟨p, hp, a1, a2⟩
  · exact absurd z ni
  rcases h.2.2.1 j hj with z | ⟨q, hq, b1, b2⟩
  · exact absurd z nj
  unfold rpr at e
  rw [a1, b1, nI_clamp (by omega), nI_clamp (by omega)] at e
  subst e
  exact (nI_eq (by omega) (by omega)).mp (a2.symm.trans b2)
section MG
variable {Θ : GP} {S : PZ} {ω : OW} {n : Nat} {c : RPar}
theorem m_rides_L {S0 : PZ} (h : MX S0 c) {q : RSt} (hq : q.2.1 = 0) : ∀ (m k f : Nat) (S : PZ), k + m = 10 → m < f → MK S0 S c q k → ∃ S', L_X11_rides_6 Θ f (gb Θ + 218) (b01 c.2.2.2.2.2.2.2.1) (b01 c.2.2.2.2.2.2.2.2) (nI k) (laz Θ S ω) n = some (.inl (some (.int (rst c q 10).1), laz Θ S' ω, n)) ∧ MK S0 S' c q 10 := by
  intro m
  induction m with
  | zero =>
    intro k f S h1 h2 hk
    obtain ⟨f, rfl⟩ : ∃ g, f = g + 1 := ⟨f - 1, by omega⟩
    have : k = 10 := by omega
    subst this
    refine ⟨S, ?_, hk⟩
    unfold L_X11_rides_6 B_X11_rides_6
    rw [if_pos (by decide), a218_28, hk.2.1]
  | succ m ih =>
    intro k f S h1 h2 hk
    obtain ⟨f, rfl⟩ : ∃ g, f = g + 1 := ⟨f - 1, by omega⟩
    obtain ⟨x1, x2, x3, x4, x5, x6, x7⟩ := hk
    have pre : ∀ r, L_X11_rides_6 Θ (f + 1) (gb Θ + 218) (b01 c.2.2.2.2.2.2.2.1) (b01 c.2.2.2.2.2.2.2.2) (nI k) (laz Θ S ω) n = r ↔ (if (rst c q k).1 = -1 then cO (laz Θ (uA (uA S 227 (upd (zA S 227) k (-1))) 228 (upd (zA S 228) k 0)) ω) (gb Θ + 218) 11 (kV (F_X11_rideSlot Θ (gb Θ + 218) (nI k) (b01 c.2.2.2.2.2.2.2.1) (b01 c.2.2.2.2.2.2.2.2) (laz Θ (uA (uA S 227 (upd (zA S 227) k (-1))) 228 (upd (zA S 228) k 0)) ω) n) (fun ω n => L_X11_rides_6 Θ f (gb Θ + 218) (b01 c.2.2.2.2.2.2.2.1) (b01 c.2.2.2.2.2.2.2.2) (nI k + 1) ω n)) else L_X11_rides_6 Θ f (gb Θ + 218) (b01 c.2.2.2.2.2.2.2.1) (b01 c.2.2.2.2.2.2.2.2) (nI k + 1) (laz Θ (uA (uA S 227 (upd (zA S 227) k (-1))) 228 (upd (zA S 228) k 0)) ω) n) = r := by
      intro r
      rw [show L_X11_rides_6 Θ (f + 1) (gb Θ + 218) (b01 c.2.2.2.2.2.2.2.1) (b01 c.2.2.2.2.2.2.2.2) (nI k) (laz Θ S ω) n = B_X11_rides_6 Θ (L_X11_rides_6 Θ f) (gb Θ + 218) (b01 c.2.2.2.2.2.2.2.1) (b01 c.2.2.2.2.2.2.2.2) (nI k) (laz Θ S ω) n from rfl]
      unfold B_X11_rides_6 J_X11_rides_41
      rw [if_neg (show ¬ (10 : Int32) ≤ nI k from nI_ge (b := 10) (by omega) (by omega)), a218_25, s_227 (by omega), a218_26, s_228 (by omega), zA_ne _ _ (show 228 ≠ 227 by decide), a218_28, zF_uA, zF_uA, x2]
    have xq0 : XQ S0 (uA (uA S 227 (upd (zA S 227) k (-1))) 228 (upd (zA S 228) k 0)) := (x1.nA (by omega)).nA (by omega)
    by_cases z : (rst c q k).1 = -1
    · have er : rst1 c k (-1, (rst c q k).2.1, (rst c q k).2.2) = rst c q (k + 1) := by
        show _ = rst1 c k (rst c q k)
        congr 1
        rw [← z]
      obtain ⟨S1, e1, y⟩ := m_rideSlot (Θ := Θ) (S := uA (uA S 227 (upd (zA S 227) k (-1))) 228 (upd (zA S 228) k 0)) (ω := ω) (n := n) (h.xq xq0) (show k < 10 by omega) ((rst_rg h.1 hq k (by omega)).le (by omega)) (x2.trans z) x3 x4
      rw [er] at y
      obtain ⟨y1, y2, y3, y4, y5, y6, y7, y8⟩ := y
      have hk' : MK S0 S1 c q (k + 1) := by
        refine ⟨xq0.trans y1, y2, y3, y4, fun j hj => ?_, ?_, fun j hj a b => ?_⟩
        · rw [y5, y6]
          by_cases hjk : j = k
          · subst hjk
            rw [upd_same, upd_same]
            refine ⟨by unfold bhS; rw [if_pos z], ?_⟩
            unfold fgS
            by_cases ht : c.2.2.1 j = -1
            · rw [if_pos ht, if_neg (fun w => w.2 ht)]
            · rw [if_neg ht, if_pos ⟨z, ht⟩]
          · rw [upd_ne _ _ hjk, upd_ne _ _ hjk, zA_ne _ _ (show 227 ≠ 228 by decide), zA_eq, zA_eq, upd_ne _ _ hjk, upd_ne _ _ hjk]
            exact x5 j (by omega)
        · rw [y7]
          show _ = if (rst c q k).1 = -1 ∧ c.2.2.1 k ≠ -1 then cmB c q k ||| (1 <<< (c.2.2.1 k &&& 31)) else cmB c q k
          rw [zF_uA, zF_uA, x6]
          by_cases ht : c.2.2.1 k = -1
          · rw [if_pos ht, if_neg (fun w => w.2 ht)]
          · rw [if_neg ht, if_pos ⟨z, ht⟩]
        · rw [y8]
          by_cases ht : c.2.2.1 k = -1
          · rw [if_pos ht]
            by_cases hjk : j = k
            · subst hjk; exact absurd ht b
            · exact x7 j (by omega) a b
          · rw [if_neg ht]
            by_cases hjk : j = k
            · subst hjk; rw [upd_same]
            · rw [upd_ne _ _ (fun e => hjk (h.1.inj (by omega) (by omega) b ht e))]
              exact x7 j (by omega) a b
      obtain ⟨S', e2, o⟩ := ih (k + 1) f S1 (by omega) (by omega) hk'
      refine ⟨S', (pre _).mpr ?_, o⟩
      rw [if_pos z, d218, e1, kV_v, nI_1, e2]
    · have es : rst c q (k + 1) = rst c q k := rst_stop c q z 1
      have hk' : MK S0 (uA (uA S 227 (upd (zA S 227) k (-1))) 228 (upd (zA S 228) k 0)) c q (k + 1) := by
        refine ⟨xq0, by rw [es]; exact x2, by rw [es]; exact x3, by rw [es]; exact x4, fun j hj => ?_, ?_, fun j hj a b => ?_⟩
        · rw [zA_ne _ _ (show 227 ≠ 228 by decide), zA_eq, zA_eq]
          by_cases hjk : j = k
          · subst hjk
            rw [upd_same, upd_same]
            exact ⟨by unfold bhS; rw [if_neg z], by unfold fgS; rw [if_neg (fun w => z w.1)]⟩
          · rw [upd_ne _ _ hjk, upd_ne _ _ hjk]
            exact x5 j (by omega)
        · show zF S 218 29 = if (rst c q k).1 = -1 ∧ c.2.2.1 k ≠ -1 then cmB c q k ||| (1 <<< (c.2.2.1 k &&& 31)) else cmB c q k
          rw [if_neg (fun w => z w.1), x6]
        · by_cases hjk : j = k
          · subst hjk; exact absurd a z
          · exact x7 j (by omega) a b
      obtain ⟨S', e2, o⟩ := ih (k + 1) f _ (by omega) (by omega) hk'
      refine ⟨S', (pre _).mpr ?_, o⟩
      rw [if_neg z, nI_1, e2]
theorem m_rides (h : MX S c) (hw : zA S 219 = c.1) : ∃ S', F_X11_rides Θ (gb Θ + 218) (b01 c.2.2.2.2.2.2.2.1) (b01 c.2.2.2.2.2.2.2.2) (laz Θ S ω) n = some (.inl (some (.int (rst c (-1, 0, c.1 8) 10).1), laz Θ S' ω, n)) ∧ MK S S' c (-1, 0, c.1 8) 10 := by
  unfold F_X11_rides F_X11_begins
  rw [d218, b218_28, b218_29, b218_30, kV_v]
  have xq0 : XQ S (uF (uF (uF S 218 28 (-1)) 218 29 0) 218 30 0) := (((XQ.rf S).nF (by omega)).nF (by omega)).nF (by omega)
  refine m_rides_L (Θ := Θ) (ω := ω) (n := n) h (q := (-1, 0, c.1 8)) rfl 10 0 5000 _ (by omega) (by omega) ⟨xq0, rfl, rfl, ?_, fun j hj => by omega, rfl, fun j hj => by omega⟩
  show zA S 219 = upd c.1 8 (c.1 8)
  rw [hw, w8_self]
theorem m_looksAt {a : Nat} (ha : a < 6) : F_X11_looksAt Θ (gb Θ + 218) (nI a) (laz Θ S ω) n = some (.inl (none, laz Θ (uF (uF (uF S 218 18 (zA S 219 (4 * a + 41))) 218 19 (zA S 219 (4 * a + 42))) 218 20 (zA S 219 (4 * a + 43))) ω, n)) := by
  unfold F_X11_looksAt
  rw [d218, m_of0 ha, kI_v, b218_18, d218, m_of1 ha, kI_v, b218_19, d218, m_of2 ha, kI_v, b218_20]
  rfl
end MG
/-- one of the accused, on the track as it is -/
def cPar (w : Nat → Int32) (lw : LW) (a : Nat) (dr te : Bool) : RPar := (w, lw, fun s => pin w (nI s), fun _ => false, w (4 * a + 42), w (4 * a + 43), w (4 * a + 41), dr, te)
theorem cPar_ok {w : Nat → Int32} {lw : LW} (hW : WB w) (hM : LawM w lw) {a : Nat} (ha : a < 6) (dr te : Bool) : ROK (cPar w lw a dr te) := by
  refine ⟨hW, hM, fun s _ => ?_, (hW.2.2.2.2.2.2.2.2.1 a ha).2.1⟩
  rcases pin_cases w (nI s) with ⟨h, _⟩ | ⟨q, h1, h2, h3⟩
  · exact Or.inl h
  · exact Or.inr ⟨q, h1, h2, h3⟩
theorem rst_sd {c : RPar} (h : c.2.2.2.2.2.2.2.1 = false) (q : RSt) : ∀ k, (rst c q k).2.2 = q.2.2 := by
  intro k
  induction k with
  | zero => rfl
  | succ k ih =>
    show (rst1 c k (rst c q k)).2.2 = _
    unfold rst1
    split
    · show rsd c k (rst c q k).2.2 = _
      unfold rsd
      rw [ih]
      split
      · rfl
      · rw [if_neg (by rw [h]; decide)]
    · exact ih
theorem XR.kp {R : Nat} {S S' : PZ} (hR : isR R) (h : XR R S S') : Kp S S' := by
  have hr : R = 202 ∨ R = 208 := hR
  obtain ⟨h1, h2, h3, h4⟩ := h
  refine ⟨fun k j q => h1 k j ?_, fun k q => h2 k ?_ ?_ ?_, fun k j _ _ => h3 k j⟩
  · rintro ⟨rfl, _⟩; simp [kpF] at q; omega
  · intro e; subst e; simp [kpA] at q; omega
  · intro e; subst e; simp [kpA] at q; omega
  · intro e; subst e; simp [kpA] at q; omega
theorem XR.idle {Θ : GP} {R : Nat} {S S' : PZ} (hR : isR R) (h : XR R S S') (hI : Idle Θ S) : Idle Θ S' := by
  have hr : R = 202 ∨ R = 208 := hR
  obtain ⟨h1, h2, h3, h4⟩ := h
  obtain ⟨i1, i2, i3, i4⟩ := hI
  exact ⟨by rw [h3, h3]; exact i1, by rw [h2 216 (by omega) (by omega) (by omega), h2 217 (by omega) (by omega) (by omega), h2 200 (by omega) (by omega) (by omega)]; exact i2, by rw [h1 218 23 (by omega)]; exact i3, by rw [h1 218 24 (by omega)]; exact i4⟩
theorem XQ.kp {S S' : PZ} (h : XQ S S') (hw : zA S' 219 = zA S 219) : Kp S S' := by
  obtain ⟨h1, h2, h3, h4⟩ := h
  refine ⟨fun k j q => h1 k j ?_, fun k q => ?_, fun k j _ _ => h3 k j⟩
  · rintro ⟨rfl, e⟩; simp [kpF] at q; omega
  · by_cases e : k = 219
    · subst e; exact hw
    · refine h2 k e ?_ ?_ ?_ ?_ <;> (intro e; subst e; simp [kpA] at q)
theorem XQ.idle {Θ : GP} {S S' : PZ} (h : XQ S S') (hI : Idle Θ S) : Idle Θ S' := by
  obtain ⟨h1, h2, h3, h4⟩ := h
  obtain ⟨i1, i2, i3, i4⟩ := hI
  exact ⟨by rw [h3, h3]; exact i1, by rw [h2 216 (by omega) (by omega) (by omega) (by omega) (by omega), h2 217 (by omega) (by omega) (by omega) (by omega) (by omega), h2 200 (by omega) (by omega) (by omega) (by omega) (by omega)]; exact i2, by rw [h1 218 23 (by omega)]; exact i3, by rw [h1 218 24 (by omega)]; exact i4⟩
theorem hasS_0 : ∀ p, p < 8 → hasS 0 (nI p) = 0 := by decide +kernel
theorem tkM_0 {w : Nat → Int32} (h : cP w ≤ 8) (s : Nat) : tkM w 0 s = pin w (nI s) := by
  unfold tkM
  rcases pin_cases w (nI s) with ⟨e, _⟩ | ⟨q, h1, e, _⟩
  · rw [if_pos e, e]
  · rw [if_neg (by rw [e]; exact fun y => (q_m1 (by omega)).mp y), e, if_pos (hasS_0 q (by omega))]
section BG
variable {Θ : GP} {S : PZ} {ω : OW} {n : Nat} {R : Nat}
/-- lay, on the class's side -/
theorem x_lay (hR : isR R) : F_X6_lay Θ (gb Θ + R) (laz Θ S ω) n = some (.inl (none, laz Θ (uF (uA (uA S (R + 1) (va_cpy (zA S 19) (zA S (R + 1)) 0 0 10)) (R + 2) (va_cpy (zA S 17) (zA S (R + 2)) 0 0 8)) R 6 (-1)) ω, n)) := by
  obtain ⟨k0, k1, k2, k3, k4, k5⟩ := isR_kd hR
  obtain ⟨a1, a2, a3, a4, a5⟩ := isR_al hR
  have hr : R = 202 ∨ R = 208 := hR
  unfold F_X6_lay
  rw [r6_0 k0, a14_11, r6_1 k0, z_cp0 (by decide) k1 (by decide) (by rw [a1]; decide) (by decide), r6_0 k0, a14_9, r6_2 k0, z_cp0 (by decide) k2 (by decide) (by rw [a2]; decide) (by decide), w6_6 k0, zA_ne _ _ (show 17 ≠ R + 1 by omega), zA_ne _ _ (show R + 2 ≠ R + 1 by omega)]
theorem x_board (hR : isR R) {a : Nat} (ha : a < 6) : F_X6_board Θ (gb Θ + R) (nI a) (laz Θ S ω) n = some (.inl (none, laz Θ (uF (uF (uF S R 3 (zA S 20 a)) R 4 (zA S 21 a)) R 5 (zA S 22 a)) ω, n)) := by
  obtain ⟨k0, k1, k2, k3, k4, k5⟩ := isR_kd hR
  unfold F_X6_board F_X6_boardStranger
  rw [r6_0 k0, a14_12, l_20 ha, r6_0 k0, a14_13, l_21 ha, r6_0 k0, a14_14, l_22 ha, c6 k0, w6_3 k0, w6_4 k0, w6_5 k0, kV_v]
/-- S' is as S but for the ride R -/
def XL (R : Nat) (S S' : PZ) : Prop := (∀ k j, k ≠ R → zF S' k j = zF S k j) ∧ (∀ k, ¬ (R < k ∧ k < R + 6) → zA S' k = zA S k) ∧ (∀ k j, zR S' k j = zR S k j) ∧ (∀ k, zL S' k = zL S k)
theorem XL.rf (R : Nat) (S : PZ) : XL R S S := ⟨fun _ _ _ => rfl, fun _ _ => rfl, fun _ _ => rfl, fun _ => rfl⟩
theorem XL.trans {S S' S'' : PZ} (h : XL R S S') (g : XL R S' S'') : XL R S S'' := ⟨fun k j q => (g.1 k j q).trans (h.1 k j q), fun k a => (g.2.1 k a).trans (h.2.1 k a), fun k j => (g.2.2.1 k j).trans (h.2.2.1 k j), fun k => (g.2.2.2 k).trans (h.2.2.2 k)⟩
theorem XR.xl {S S' : PZ} (h : XR R S S') : XL R S S' := ⟨fun k j q => h.1 k j (by omega), fun k q => h.2.1 k (by omega) (by omega) (by omega), h.2.2.1, h.2.2.2⟩
theorem XL.nF {S S' : PZ} (h : XL R S S') {j : Nat} {v : Int32} : XL R S (uF S' R j v) := ⟨fun k i q => by rw [zF_ne _ _ (fun z => q z.1), h.1 k i q], h.2.1, h.2.2.1, h.2.2.2⟩
theorem XL.nA {S S' : PZ} (h : XL R S S') {k : Nat} {f : Nat → Int32} (q : R < k ∧ k < R + 6) : XL R S (uA S' k f) := ⟨h.1, fun a z => by rw [zA_ne _ _ (by rintro rfl; exact z q), h.2.1 a z], h.2.2.1, h.2.2.2⟩
theorem XL.kp {S S' : PZ} (hR : isR R) (h : XL R S S') : Kp S S' := by
  have hr : R = 202 ∨ R = 208 := hR
  obtain ⟨h1, h2, h3, h4⟩ := h
  refine ⟨fun k j q => h1 k j ?_, fun k q => h2 k ?_, fun k j _ _ => h3 k j⟩
  · rintro rfl; simp [kpF] at q; omega
  · rintro ⟨a, b⟩; simp [kpA] at q; omega
theorem XL.idle {S S' : PZ} (hR : isR R) (h : XL R S S') (hI : Idle Θ S) : Idle Θ S' := by
  have hr : R = 202 ∨ R = 208 := hR
  obtain ⟨h1, h2, h3, h4⟩ := h
  obtain ⟨i1, i2, i3, i4⟩ := hI
  exact ⟨by rw [h3, h3]; exact i1, by rw [h2 216 (by omega), h2 217 (by omega), h2 200 (by omega)]; exact i2, by rw [h1 218 23 (by omega)]; exact i3, by rw [h1 218 24 (by omega)]; exact i4⟩
/-- laid and boarded: the class stands ready -/
theorem x_ready (hR : isR R) (hC : Core Θ S ω) {a : Nat} (ha : a < cO' (zA S 219)) {lw : LW} (hL : LawR Θ ω (zR S 14 17) (zA S 219) lw) (dr te : Bool) {S1 : PZ} (e : S1 = uF (uA (uA S (R + 1) (va_cpy (zA S 19) (zA S (R + 1)) 0 0 10)) (R + 2) (va_cpy (zA S 17) (zA S (R + 2)) 0 0 8)) R 6 (-1)) : RX Θ (uF (uF (uF S1 R 3 (zA S1 20 a)) R 4 (zA S1 21 a)) R 5 (zA S1 22 a)) ω R (cPar (zA S 219) lw a dr te) ∧ XL R S (uF (uF (uF S1 R 3 (zA S1 20 a)) R 4 (zA S1 21 a)) R 5 (zA S1 22 a)) := by
  have hr : R = 202 ∨ R = 208 := hR
  have hO := hC.O
  have hP := hC.P
  have xl : XL R S S1 := by rw [e]; exact (((XL.rf R S).nA (by omega)).nA (by omega)).nF
  refine ⟨⟨cPar_ok hC.1.1 hL.2 (by omega) dr te, ⟨zA S 219 3, ?_⟩, ?_, ?_, ?_, ?_, ?_, ?_, ?_⟩, ((xl.nF).nF).nF⟩
  · show LawX Θ ω (zR S1 14 17) _ lw
    rw [xl.2.2.1]; exact hL.1
  · rw [zF_ne _ _ (by omega), zF_ne _ _ (by omega), zF_ne _ _ (by omega), xl.1 14 3 (by omega)]
    exact hC.1.2.1.1.2.2.2.1
  · intro p hp
    have hr' := CRp hC.1.2.1 hp
    have hp : p < cP (zA S 219) := hp
    rw [zA_uF, zA_uF, zA_uF, zA_uF, zA_uF, zA_uF, zA_uF, zA_uF, zA_uF, xl.2.1 15 (by omega), xl.2.1 16 (by omega)]
    refine ⟨hr'.1, hr'.2.1, ?_⟩
    rw [e, zA_uF, zA_eq, cpy_at, if_pos (by omega)]
    exact hr'.2.2.1
  · intro s hs
    rw [zA_uF, zA_uF, zA_uF, e, zA_uF, zA_ne _ _ (by omega), zA_eq, cpy_at, if_pos hs]
    exact CRt hC.1.2.1 hs
  · rw [zF_ne _ _ (by omega), zF_ne _ _ (by omega), zF_eq, xl.2.1 20 (by omega)]
    exact (CRa hC.1.2.1 ha).1
  · rw [zF_ne _ _ (by omega), zF_eq, xl.2.1 21 (by omega)]
    exact (CRa hC.1.2.1 ha).2.1
  · rw [zF_eq, xl.2.1 22 (by omega)]
    exact (CRa hC.1.2.1 ha).2.2.1
  · intro p hp
    rw [zF_ne _ _ (by omega), zF_ne _ _ (by omega), zF_ne _ _ (by omega), e, zF_eq, q_m1 (by omega)]
    exact ⟨False.elim, fun z => by cases z⟩
/-- the class's straight ride of one -/
theorem x_rideStraight (hC : Core Θ S ω) {a : Nat} (ha : a < cO' (zA S 219)) {lw : LW} (hL : LawR Θ ω (zR S 14 17) (zA S 219) lw) : ∃ S' sd, F_X10_rideStraight Θ (gb Θ) (nI a) (laz Θ S ω) n = some (.inl (none, laz Θ S' ω, n)) ∧ XL 202 S S' ∧ RX Θ S' ω 202 (cPar (zA S 219) lw a false false) ∧ zF S' 202 8 = (rst (cPar (zA S 219) lw a false false) (-1, 0, sd) 10).1 ∧ zF S' 202 9 = (rst (cPar (zA S 219) lw a false false) (-1, 0, sd) 10).2.1 ∧ (∀ j, j < 10 → zA S' 205 j = bhS (cPar (zA S 219) lw a false false) (-1, 0, sd) j) ∧ (∀ j, j < 10 → zA S' 206 j = fgS (cPar (zA S 219) lw a false false) (-1, 0, sd) j) := by
  have hR : isR 202 := Or.inl rfl
  have hO := hC.O
  obtain ⟨rx, xl⟩ := x_ready hR hC ha hL false false rfl
  obtain ⟨S', e, o⟩ := x_go (Θ := Θ) (n := n) hR rx
  refine ⟨S', _, ?_, xl.trans o.1.xl, rx.xr hR o.1, o.2.1, o.2.2.1, o.2.2.2.2.1, o.2.2.2.2.2⟩
  unfold F_X10_rideStraight F_X6_straightOn
  rw [r10_8, d202, x_lay hR, kV_v, r10_8, d202, x_board hR (by omega), kV_v, r10_8, d202, d202]
  have e' := e
  rw [show b01 (cPar (zA S 219) lw a false false).2.2.2.2.2.2.2.1 = 0 from rfl, show b01 (cPar (zA S 219) lw a false false).2.2.2.2.2.2.2.2 = 0 from rfl] at e'
  rw [e', kV_v, kV_v]
end BG
