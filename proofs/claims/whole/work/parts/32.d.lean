/-! promises 43, 44: the log -/
theorem nI_rem {a k : Nat} (ha : a < 2 ^ 31) (hk : k < 2 ^ 31) : nI a - nI a / nI k * nI k = nI (a % k) := by
  have e := Nat.div_add_mod' a k
  rw [nI_div ha hk, nI_mul]
  generalize a / k * k = q at *
  generalize a % k = r at *
  rw [nI_sub (by omega)]
  congr 1
  omega
theorem q_rem {a k : Nat} (ha : a < 2 ^ 31) (hk : k < 2 ^ 31) : nI a - nI a / (OfNat.ofNat k : Int32) * (OfNat.ofNat k : Int32) = nI (a % k) := nI_rem ha hk
/-- the log of a court at c has the rows of w -/
def LG (S : PZ) (c : Nat) (w : Nat → Int32) : Prop := zF S (c + 10) 0 = w 7 ∧ ∃ fr, fr < 60 ∧ zF S (c + 10) 1 = nI fr ∧ ∀ ago, ago < (w 7).toNatClampNeg → ∀ j, j < 4 → zA S (c + 11) (4 * ((fr + 59 - ago) % 60) + j) = w (4 * ago + 65 + j)
theorem CR.lg {S : PZ} {c : Nat} {w : Nat → Int32} (h : CR S c w) : LG S c w := h.2.2.2.2
section LO
variable {Θ : GP} {S : PZ} {ω : OW} {n : Nat}
theorem x_cell {w : Nat → Int32} (h : LG S 14 w) {R ago j : Nat} (hR : w 7 = nI R) (hR60 : R ≤ 60) (ha : ago < R) (hj : j < 4) : F_X4_cell Θ (gb Θ + 24) (nI ago) (nI j) (laz Θ S ω) n = some (.inl (some (.int (w (4 * ago + 65 + j))), laz Θ S ω, n)) := by
  obtain ⟨h1, fr, h2, h3, h4⟩ := h
  unfold F_X4_cell
  have hm : (fr + 59 - ago) % 60 < 60 := Nat.mod_lt _ (by decide)
  have e1 : nI fr + 60 - 1 - nI ago = nI (fr + 59 - ago) := by
    show nI fr + nI 60 - nI 1 - nI ago = _
    rw [nI_add, nI_sub (by omega), nI_sub (by omega)]
    congr 1
  have e2 : nI (fr + 59 - ago) - nI (fr + 59 - ago) / 60 * 60 = nI ((fr + 59 - ago) % 60) := nI_rem (k := 60) (by omega) (by omega)
  have e3 : nI ((fr + 59 - ago) % 60) * 4 + nI j = nI (4 * ((fr + 59 - ago) % 60) + j) := by
    show nI ((fr + 59 - ago) % 60) * nI 4 + nI j = _
    rw [nI_mul, nI_add, Nat.mul_comm]
  rw [if_neg (nI_pos (by omega)), a24_0, show zF S 24 0 = nI R from h1.trans hR, if_neg (nI_ge ha (by omega)), if_neg (nI_pos (by omega)), if_pos (show nI j < 4 from nI_lt (b := 4) hj (by decide)), a24_1, show zF S 24 1 = nI fr from h3, a24_2, e1, e2, e3, l_25 (by omega)]
  rw [show zA S 25 (4 * ((fr + 59 - ago) % 60) + j) = w (4 * ago + 65 + j) from h4 ago (by rw [hR, nI_clamp (by omega)]; exact ha) j hj]
theorem x_cell_n {w : Nat → Int32} (h : LG S 14 w) {R : Nat} {v u : Int32} (hR : w 7 = nI R) (hR60 : R ≤ 60) (ha : ¬ ∃ k, k < R ∧ v = nI k) : F_X4_cell Θ (gb Θ + 24) v u (laz Θ S ω) n = some (.inl (some (.int (-1)), laz Θ S ω, n)) := by
  unfold F_X4_cell J_X4_cell_21
  rcases q_out (by omega) ha with q | ⟨q1, q2⟩
  · rw [if_pos q]
  · rw [if_neg q1, a24_0, show zF S 24 0 = nI R from h.1.trans hR, if_pos q2]
theorem ixl (a j : Nat) : (65 + (4 * nI a)) + nI j = nI (4 * a + 65 + j) := by
  show nI 65 + nI 4 * nI a + nI j = _
  rw [nI_mul, nI_add, nI_add]; congr 1; omega
theorem m_ofLog {ago j : Nat} (ha : ago < 60) (hj : j < 4) : F_X11_ofLog Θ (gb Θ + 218) (nI ago) (nI j) (laz Θ S ω) n = some (.inl (some (.int (zA S 219 (4 * ago + 65 + j))), laz Θ S ω, n)) := by
  unfold F_X11_ofLog
  rw [a218_1, ixl, l_219 (by omega)]
theorem m_ofLog1 {ago : Nat} (ha : ago < 60) : F_X11_ofLog Θ (gb Θ + 218) (nI ago) 1 (laz Θ S ω) n = some (.inl (some (.int (zA S 219 (4 * ago + 66))), laz Θ S ω, n)) := m_ofLog (j := 1) ha (by decide)
theorem m_ofLog2 {ago : Nat} (ha : ago < 60) : F_X11_ofLog Θ (gb Θ + 218) (nI ago) 2 (laz Θ S ω) n = some (.inl (some (.int (zA S 219 (4 * ago + 67))), laz Θ S ω, n)) := m_ofLog (j := 2) ha (by decide)
theorem x_cell1 {w : Nat → Int32} (h : LG S 14 w) {R ago : Nat} (hR : w 7 = nI R) (hR60 : R ≤ 60) (ha : ago < R) : F_X4_cell Θ (gb Θ + 24) (nI ago) 1 (laz Θ S ω) n = some (.inl (some (.int (w (4 * ago + 66))), laz Θ S ω, n)) := x_cell (j := 1) h hR hR60 ha (by decide)
theorem x_cell2 {w : Nat → Int32} (h : LG S 14 w) {R ago : Nat} (hR : w 7 = nI R) (hR60 : R ≤ 60) (ha : ago < R) : F_X4_cell Θ (gb Θ + 24) (nI ago) 2 (laz Θ S ω) n = some (.inl (some (.int (w (4 * ago + 67))), laz Θ S ω, n)) := x_cell (j := 2) h hR hR60 ha (by decide)
end LO
theorem Core.R {Θ : GP} {S : PZ} {ω : OW} (h : Core Θ S ω) : ∃ R, R ≤ 60 ∧ zA S 219 7 = nI R := by
  obtain ⟨k, h1, h2⟩ := h.1.1.2.2.2.2.2.2.1
  exact ⟨k, h1, h2⟩
theorem pc42 (Θ : GP) : PC_42 Θ (gb Θ) (gb Θ + 218) (gb Θ + 234) (Inv Θ) := by
  intro v xs i hI
  obtain ⟨S, ω, rfl, hC, hI⟩ := hI
  obtain ⟨R, hR60, hR⟩ := hC.R
  have hL := hC.1.2.1.lg
  show stW Θ _ _ (fun ω n => W_log Θ (gb Θ) (xs (i + 1)) (xs (i + 2)) (gb Θ + 234) ω n) (fun ω n => F_X11_log Θ (gb Θ + 218) (xs (i + 1)) (xs (i + 2)) ω n) _ _
  generalize xs (i + 1) = v
  generalize xs (i + 2) = u
  by_cases hu : ∃ s, s < 4 ∧ u = nI s
  · obtain ⟨j, hj, rfl⟩ := hu
    by_cases hv : ∃ s, s < R ∧ v = nI s
    · obtain ⟨a, ha, rfl⟩ := hv
      refine fin_W fun n _ => ⟨0, uL S 234 (zA S 219 (4 * a + 65 + j)).toInt64, ω, ?_, fun n2 => ⟨zA S 219 (4 * a + 65 + j), uF (uL S 234 (zA S 219 (4 * a + 65 + j)).toInt64) 218 0 0, n2, ?_, rfl, fun _ => rfl, hC.nL.thr, hI.nL.thr⟩⟩
      · show W_log Θ (gb Θ) (nI a) (nI j) (gb Θ + 234) (laz Θ S ω) n = _
        unfold W_log F_X10_log
        rw [c10w, if_neg (nI_pos (by omega)), if_pos (show nI j < 4 from nI_lt (b := 4) hj (by decide)), r10_0, a14_16, d24, x_cell hL hR hR60 ha hj, kI_v, wrJ_v]
      · show F_X11_log Θ (gb Θ + 218) (nI a) (nI j) (laz Θ _ ω) n2 = _
        unfold F_X11_log J_X11_log_20 J_X11_log_56
        rw [b218_0, in03_y hj, kI_v, if_neg (by decide), d218, m_throwsIf0, kI_v, if_pos rfl, a218_1, lI_lit, l_219 (by decide)]
        rw [m_in1, kI_v, if_neg (by decide), d218, m_ofLog (by omega) hj, kI_v]
        · rfl
        · rintro (h | h)
          · exact nI_pos (by omega) h
          · have h' : nI R - 1 < nI a := by rw [← hR]; exact h
            rw [q_pred (by omega), nI_leI (by omega) (by omega)] at h'
            omega
    · refine fin_W fun n _ => ⟨0, uL S 234 (-1 : Int32).toInt64, ω, ?_, fun n2 => ⟨-1, uF (uL S 234 (-1 : Int32).toInt64) 218 0 0, n2, ?_, rfl, fun _ => rfl, hC.nL.thr, hI.nL.thr⟩⟩
      · show W_log Θ (gb Θ) v (nI j) (gb Θ + 234) (laz Θ S ω) n = _
        unfold W_log F_X10_log
        rw [c10w, if_neg (nI_pos (by omega)), if_pos (show nI j < 4 from nI_lt (b := 4) hj (by decide)), r10_0, a14_16, d24, x_cell_n hL hR hR60 hv, kI_v, wrJ_v]
      · show F_X11_log Θ (gb Θ + 218) v (nI j) (laz Θ _ ω) n2 = _
        unfold F_X11_log J_X11_log_20 J_X11_log_56
        rw [b218_0, in03_y hj, kI_v, if_neg (by decide), d218, m_throwsIf0, kI_v, if_pos rfl, a218_1, lI_lit, l_219 (by decide)]
        rw [m_in0, kI_v, if_pos rfl]
        rcases q_out (by omega) hv with q | ⟨_, q⟩
        · exact Or.inl q
        · refine Or.inr ?_
          show zA S 219 7 - 1 < v
          rw [hR]
          exact (q_pred (by omega)).mpr q
  · refine fin_W fun n _ => ⟨1, S, ω, ?_, fun n2 => ⟨0, uF (uF S 218 0 0) 218 0 1, n2, ?_, rfl, fun h => absurd h (by decide), hC.thr.thr, hI.thr.thr⟩⟩
    · show W_log Θ (gb Θ) v u (gb Θ + 234) (laz Θ S ω) n = _
      unfold W_log F_X10_log J_X10_log_9
      rw [c10w]
      rcases q_out (by decide) hu with q | ⟨q1, q2⟩
      · rw [if_pos q]; exact wrJ_x
      · rw [if_neg q1, if_neg (show ¬ u < 4 from q_nle (P := 4) q2)]; exact wrJ_x
    · show F_X11_log Θ (gb Θ + 218) v u (laz Θ S ω) n2 = _
      unfold F_X11_log J_X11_log_20
      rw [b218_0, in_n (N := 4) (by decide) (by decide) hu, kI_v, if_pos rfl, d218, m_throwsIf1, kI_v, if_neg (by decide)]
/-- led: the rows of one, with a scream or not -/
def gle (w : Nat → Int32) (one sc : Int32) : Nat → Int32 := fun q => if w (4 * q + 66) = one ∧ (sc = 0 ∨ ¬ 10 ≤ w (4 * q + 67)) then 1 else 0
section LE
variable {Θ : GP} {S : PZ} {ω : OW} {n : Nat}
theorem m_led_L {R : Nat} (hR : zA S 219 7 = nI R) (hR60 : R ≤ 60) {one sc : Int32} : ∀ (k p f : Nat) (a : Int32), p + k = R → k < f → L_X11_led_25 Θ f (gb Θ + 218) one sc a (nI p) (laz Θ S ω) n = some (.inl (some (.int (adL (gle (zA S 219) one sc) k p a)), laz Θ S ω, n)) := by
  intro k
  induction k with
  | zero =>
    intro p f a h1 h2
    obtain ⟨f, rfl⟩ : ∃ g, f = g + 1 := ⟨f - 1, by omega⟩
    unfold L_X11_led_25 B_X11_led_25
    rw [a218_1, lI_lit, l_219 (by decide), hR, if_pos (nI_le (by omega) (by omega))]
    rfl
  | succ k ih =>
    intro p f a h1 h2
    obtain ⟨f, rfl⟩ : ∃ g, f = g + 1 := ⟨f - 1, by omega⟩
    unfold L_X11_led_25 B_X11_led_25 J_X11_led_65 J_X11_led_69 J_X11_led_70
    rw [a218_1, lI_lit, l_219 (by decide), hR, if_neg (nI_ge (by omega) (by omega)), d218, m_ofLog1 (by omega), kI_v]
    by_cases c1 : zA S 219 (4 * p + 66) = one
    · by_cases c2 : sc = 0
      · rw [if_pos c1, if_pos c2, nI_1, ih (p + 1) f _ (by omega) (by omega)]
        simp only [adL, gle, if_pos (And.intro c1 (Or.inl c2 : sc = 0 ∨ ¬ 10 ≤ zA S 219 (4 * p + 67)))]
      · rw [if_pos c1, if_neg c2, d218, m_ofLog2 (by omega), kI_v]
        by_cases c3 : 10 ≤ zA S 219 (4 * p + 67)
        · rw [if_pos c3, nI_1, ih (p + 1) f _ (by omega) (by omega)]
          simp only [adL, gle, if_neg (fun (h : zA S 219 (4 * p + 66) = one ∧ (sc = 0 ∨ ¬ 10 ≤ zA S 219 (4 * p + 67))) => h.2.elim c2 (fun z => z c3))]
        · rw [if_neg c3, nI_1, ih (p + 1) f _ (by omega) (by omega)]
          simp only [adL, gle, if_pos (And.intro c1 (Or.inr c3 : sc = 0 ∨ ¬ 10 ≤ zA S 219 (4 * p + 67)))]
    · rw [if_neg c1, nI_1, ih (p + 1) f _ (by omega) (by omega)]
      simp only [adL, gle, if_neg (fun (h : zA S 219 (4 * p + 66) = one ∧ (sc = 0 ∨ ¬ 10 ≤ zA S 219 (4 * p + 67))) => c1 h.1)]
theorem x_led_L {w : Nat → Int32} (h : LG S 14 w) {R : Nat} (hR : w 7 = nI R) (hR60 : R ≤ 60) {one sc : Int32} : ∀ (k p f : Nat) (a : Int32), p + k = R → k < f → L_X10_led_10 Θ f (gb Θ) one sc a (nI p) (laz Θ S ω) n = some (.inl (some (.int (adL (gle w one sc) k p a)), laz Θ S ω, n)) := by
  have h0 : zF S 24 0 = nI R := h.1.trans hR
  intro k
  induction k with
  | zero =>
    intro p f a h1 h2
    obtain ⟨f, rfl⟩ : ∃ g, f = g + 1 := ⟨f - 1, by omega⟩
    unfold L_X10_led_10 B_X10_led_10
    rw [r10_0, a14_16, a24_0, h0, if_pos (nI_le (by omega) (by omega))]
    rfl
  | succ k ih =>
    intro p f a h1 h2
    obtain ⟨f, rfl⟩ : ∃ g, f = g + 1 := ⟨f - 1, by omega⟩
    unfold L_X10_led_10 B_X10_led_10 J_X10_led_47 J_X10_led_52 J_X10_led_81 J_X10_led_82
    rw [r10_0, a14_16, a24_0, h0, if_neg (nI_ge (by omega) (by omega))]
    by_cases c2 : sc = 0
    · rw [if_pos c2, if_neg (by decide), r10_0, a14_16, d24, x_cell1 h hR hR60 (by omega), kI_v]
      by_cases c1 : w (4 * p + 66) = one
      · rw [if_pos c1, nI_1, ih (p + 1) f _ (by omega) (by omega)]
        simp only [adL, gle, if_pos (And.intro c1 (Or.inl c2 : sc = 0 ∨ ¬ 10 ≤ w (4 * p + 67)))]
      · rw [if_neg c1, nI_1, ih (p + 1) f _ (by omega) (by omega)]
        simp only [adL, gle, if_neg (fun (h : w (4 * p + 66) = one ∧ (sc = 0 ∨ ¬ 10 ≤ w (4 * p + 67))) => c1 h.1)]
    · rw [if_neg c2, r10_0, a14_16, d24, x_cell2 h hR hR60 (by omega), kI_v]
      by_cases c3 : 10 ≤ w (4 * p + 67)
      · rw [if_pos c3, if_pos rfl, nI_1, ih (p + 1) f _ (by omega) (by omega)]
        simp only [adL, gle, if_neg (fun (h : w (4 * p + 66) = one ∧ (sc = 0 ∨ ¬ 10 ≤ w (4 * p + 67))) => h.2.elim c2 (fun z => z c3))]
      · rw [if_neg c3, if_neg (by decide), r10_0, a14_16, d24, x_cell1 h hR hR60 (by omega), kI_v]
        by_cases c1 : w (4 * p + 66) = one
        · rw [if_pos c1, nI_1, ih (p + 1) f _ (by omega) (by omega)]
          simp only [adL, gle, if_pos (And.intro c1 (Or.inr c3 : sc = 0 ∨ ¬ 10 ≤ w (4 * p + 67)))]
        · rw [if_neg c1, nI_1, ih (p + 1) f _ (by omega) (by omega)]
          simp only [adL, gle, if_neg (fun (h : w (4 * p + 66) = one ∧ (sc = 0 ∨ ¬ 10 ≤ w (4 * p + 67))) => c1 h.1)]
end LE
theorem pc41 (Θ : GP) : PC_41 Θ (gb Θ) (gb Θ + 218) (gb Θ + 234) (Inv Θ) := by
  intro v xs i hI
  obtain ⟨S, ω, rfl, hC, hI⟩ := hI
  obtain ⟨R, hR60, hR⟩ := hC.R
  have hL := hC.1.2.1.lg
  have hO := hC.O
  show stW Θ _ _ (fun ω n => W_led Θ (gb Θ) (xs (i + 1)) (bI (xs (i + 2))) (gb Θ + 234) ω n) (fun ω n => F_X11_led Θ (gb Θ + 218) (xs (i + 1)) (bI (xs (i + 2))) ω n) _ _
  generalize xs (i + 1) = v
  generalize bI (xs (i + 2)) = u
  by_cases hv : ∃ s, s < cO' (zA S 219) ∧ v = nI s
  · obtain ⟨p, hp, rfl⟩ := hv
    refine fin_W fun n _ => ⟨0, uL S 234 (adL (gle (zA S 219) (nI p) u) R 0 0).toInt64, ω, ?_, fun n2 => ⟨adL (gle (zA S 219) (nI p) u) R 0 0, uF (uL S 234 (adL (gle (zA S 219) (nI p) u) R 0 0).toInt64) 218 0 0, n2, ?_, rfl, fun _ => rfl, hC.nL.thr, hI.nL.thr⟩⟩
    · show W_led Θ (gb Θ) (nI p) u (gb Θ + 234) (laz Θ S ω) n = _
      unfold W_led F_X10_led
      rw [c10w, c10, x_needOne_y hC hp, kV_v]
      have e := x_led_L (Θ := Θ) (ω := ω) (n := n) hL hR hR60 (one := nI p) (sc := u) R 0 5000 0 (by omega) (by omega)
      exact (congrArg (fun r => wrJ Θ (gb Θ + 234) "java/lang/IndexOutOfBoundsException" r) e).trans wrJ_v
    · show F_X11_led Θ (gb Θ + 218) (nI p) u (laz Θ _ ω) n2 = _
      unfold F_X11_led
      rw [b218_0, d218, m_noOne_y (by exact hO.1) hO.2.1 hp, kI_v, d218, m_throwsIf0, kI_v, if_pos rfl]
      exact m_led_L (S := uF (uL S 234 (adL (gle (zA S 219) (nI p) u) R 0 0).toInt64) 218 0 0) hR hR60 R 0 5000 0 (by omega) (by omega)
  · refine fin_W fun n _ => ⟨1, S, ω, ?_, fun n2 => ⟨0, uF (uF S 218 0 0) 218 0 1, n2, ?_, rfl, fun h => absurd h (by decide), hC.thr.thr, hI.thr.thr⟩⟩
    · show W_led Θ (gb Θ) v u (gb Θ + 234) (laz Θ S ω) n = _
      unfold W_led F_X10_led
      rw [c10w, c10, x_needOne_n hC hv, kV_x, wrJ_x]
    · show F_X11_led Θ (gb Θ + 218) v u (laz Θ S ω) n2 = _
      unfold F_X11_led
      rw [b218_0, d218, m_noOne_n (by exact hO.1) hO.2.1 hv, kI_v, d218, m_throwsIf1, kI_v, if_neg (by decide)]
