/-! ends of a call -/
section FI
variable {Θ : GP} {S : PZ} {ω : OW}
theorem laz_o : laz Θ S ω (gb Θ + 234) = some (.inl (gJ Θ, 1, .inr (.inl (vp_updL (fun _ => 0) 0 (zL S 234))))) := laz_at Θ S ω (by decide)
theorem laz_uo (x : Int64) : g_upd (laz Θ S ω) (gb Θ + 234) (.inl (gJ Θ, 1, .inr (.inl (vp_updL (vp_updL (fun _ => 0) 0 (zL S 234)) 0 x)))) = laz Θ (uL S 234 x) ω := by
  refine laz_upd Θ S _ ω (by decide) ?_ (cez_uL Θ S 234 x)
  show (Sum.inl (gJ Θ, 1, Sum.inr (Sum.inl (vp_updL (fun _ => 0) 0 x))) : va_E) = _
  congr 5
  funext j
  unfold vp_updL
  split <;> rfl
theorem wrJ_v {E : String} {x : Int32} {n : Nat} : wrJ Θ (gb Θ + 234) E (some (.inl (some (.int x), laz Θ S ω, n))) = some (0, laz Θ (uL S 234 x.toInt64) ω) := by
  unfold wrJ
  simp only [laz_o]
  rw [if_pos ⟨trivial, by decide⟩, laz_uo]
theorem wrI_v {E1 E2 : String} {x : Int32} {n : Nat} : wrI Θ (gb Θ + 234) E1 E2 (some (.inl (some (.int x), laz Θ S ω, n))) = some (0, laz Θ (uL S 234 x.toInt64) ω) := by
  unfold wrI
  simp only [laz_o]
  rw [if_pos ⟨trivial, by decide⟩, laz_uo]
theorem wrJ_x {o : Nat} {E : String} {v : OW} : wrJ Θ o E (some (.inr (E, v))) = some (1, v) := if_pos rfl
theorem wrI_x1 {o : Nat} {E E2 : String} {v : OW} : wrI Θ o E E2 (some (.inr (E, v))) = some (1, v) := if_pos rfl
theorem wrI_x2 {o : Nat} {E E2 : String} {v : OW} (h : E2 ≠ E) : wrI Θ o E E2 (some (.inr (E2, v))) = some (2, v) := (if_neg h).trans (if_pos rfl)
theorem wrV_v {E E2 : String} {v : OW} {n : Nat} : wrV E E2 (some (.inl (none, v, n))) = some (0, v) := rfl
theorem wrV_x1 {E E2 : String} {v : OW} : wrV E E2 (some (.inr (E, v))) = some (1, v) := if_pos rfl
theorem wrV_x2 {E E2 : String} {v : OW} (h : E2 ≠ E) : wrV E E2 (some (.inr (E2, v))) = some (2, v) := (if_neg h).trans (if_pos rfl)
theorem isO_x : isO (laz Θ S ω) (gb Θ) 10 := ⟨_, laz_at Θ S ω (k := 0) (by decide)⟩
theorem isO_m : isO (laz Θ S ω) (gb Θ + 218) 11 := ⟨_, laz_at Θ S ω (k := 218) (by decide)⟩
theorem fin_I {FX FM : OW → Nat → RO} (h : ∀ n, Fr (laz Θ S ω) n → ∃ v S1 ω1 n1, FX (laz Θ S ω) n = some (.inl (some (.int v), laz Θ S1 ω1, n1)) ∧ ∀ n2, ∃ S2 n3, FM (laz Θ S1 ω1) n2 = some (.inl (some (.int v), laz Θ S2 ω1, n3)) ∧ Core Θ S2 ω1 ∧ Idle Θ S2) : stI (gb Θ) (gb Θ + 218) FX FM (Inv Θ) (laz Θ S ω) := by
  intro n hn
  obtain ⟨v, S1, ω1, n1, e1, h⟩ := h n hn
  refine ⟨isO_x, v, _, n1, e1, fun n2 _ => ⟨isO_m, ?_⟩⟩
  obtain ⟨S2, n3, e2, h1, h2⟩ := h n2
  exact ⟨_, n3, e2, S2, ω1, rfl, h1, h2⟩
theorem fin_V {FX FM : OW → Nat → RO} (h : ∀ n, Fr (laz Θ S ω) n → ∃ S1 ω1 n1, FX (laz Θ S ω) n = some (.inl (none, laz Θ S1 ω1, n1)) ∧ ∀ n2, ∃ S2 n3, FM (laz Θ S1 ω1) n2 = some (.inl (none, laz Θ S2 ω1, n3)) ∧ Core Θ S2 ω1 ∧ Idle Θ S2) : stV (gb Θ) (gb Θ + 218) FX FM (Inv Θ) (laz Θ S ω) := by
  intro n hn
  obtain ⟨S1, ω1, n1, e1, h⟩ := h n hn
  refine ⟨isO_x, _, n1, e1, fun n2 _ => ⟨isO_m, ?_⟩⟩
  obtain ⟨S2, n3, e2, h1, h2⟩ := h n2
  exact ⟨_, n3, e2, S2, ω1, rfl, h1, h2⟩
theorem fin_W {WX : OW → Nat → Option (Int32 × OW)} {FM : OW → Nat → RO} (h : ∀ n, Fr (laz Θ S ω) n → ∃ k S1 ω1, WX (laz Θ S ω) n = some (k, laz Θ S1 ω1) ∧ ∀ n2, ∃ b S2 n3, FM (laz Θ S1 ω1) n2 = some (.inl (some (.int b), laz Θ S2 ω1, n3)) ∧ zF S2 218 0 = k ∧ (k = 0 → zL S2 234 = b.toInt64) ∧ Core Θ S2 ω1 ∧ Idle Θ S2) : stW Θ (gb Θ + 218) (gb Θ + 234) WX FM (Inv Θ) (laz Θ S ω) := by
  intro n hn
  obtain ⟨k, S1, ω1, e1, h⟩ := h n hn
  refine ⟨k, _, e1, fun n2 _ => ⟨isO_m, ?_⟩⟩
  obtain ⟨b, S2, n3, e2, h1, h2, h3, h4⟩ := h n2
  refine ⟨b, _, n3, e2, isO_m, fun n4 => ?_, fun hk => ⟨_, laz_o, ?_⟩, S2, ω1, rfl, h3, h4⟩
  · rw [m_thrown, h1]
  · show (if 0 = 0 then _ else _) = _
    rw [if_pos rfl, h2 hk]
theorem fin_U {WX : OW → Nat → Option (Int32 × OW)} {FM : OW → Nat → RO} (h : ∀ n, Fr (laz Θ S ω) n → ∃ k S1 ω1, WX (laz Θ S ω) n = some (k, laz Θ S1 ω1) ∧ ∀ n2, ∃ S2 n3, FM (laz Θ S1 ω1) n2 = some (.inl (none, laz Θ S2 ω1, n3)) ∧ zF S2 218 0 = k ∧ Core Θ S2 ω1 ∧ Idle Θ S2) : stU Θ (gb Θ + 218) WX FM (Inv Θ) (laz Θ S ω) := by
  intro n hn
  obtain ⟨k, S1, ω1, e1, h⟩ := h n hn
  refine ⟨k, _, e1, fun n2 _ => ⟨isO_m, ?_⟩⟩
  obtain ⟨S2, n3, e2, h1, h3, h4⟩ := h n2
  exact ⟨_, n3, e2, isO_m, fun n4 => by rw [m_thrown, h1], S2, ω1, rfl, h3, h4⟩
end FI
theorem Idle.nF {Θ : GP} {S : PZ} (h : Idle Θ S) {k j : Nat} {v : Int32} (q : ¬ (k = 218 ∧ (j = 23 ∨ j = 24))) : Idle Θ (uF S k j v) := by
  obtain ⟨h1, h2, h3, h4⟩ := h
  refine ⟨h1, h2, ?_, ?_⟩
  · rw [zF_uF, if_neg (by omega)]; exact h3
  · rw [zF_uF, if_neg (by omega)]; exact h4
theorem Idle.nA {Θ : GP} {S : PZ} (h : Idle Θ S) {k : Nat} {f : Nat → Int32} (q : k ≠ 216 ∧ k ≠ 217 ∧ k ≠ 200) : Idle Θ (uA S k f) := by
  obtain ⟨h1, h2, h3, h4⟩ := h
  refine ⟨h1, fun t ht => ?_, h3, h4⟩
  rw [zA_uA, if_neg (by omega), zA_uA, if_neg (by omega), zA_uA, if_neg (by omega)]
  exact h2 t ht
theorem Idle.nL {Θ : GP} {S : PZ} (h : Idle Θ S) {k : Nat} {v : Int64} : Idle Θ (uL S k v) := h
theorem Idle.nR {Θ : GP} {S : PZ} (h : Idle Θ S) {k j v : Nat} (q : k ≠ 214) : Idle Θ (uR S k j v) := by
  obtain ⟨h1, h2, h3, h4⟩ := h
  refine ⟨?_, h2, h3, h4⟩
  rw [zR_uR, zR_uR, if_neg (by omega), if_neg (by omega)]
  exact h1
theorem Core.nL {Θ : GP} {S : PZ} {ω : OW} (h : Core Θ S ω) {k : Nat} {v : Int64} : Core Θ (uL S k v) ω := h.kp (KK.rf S)
theorem Core.thr {Θ : GP} {S : PZ} {ω : OW} (h : Core Θ S ω) {v : Int32} : Core Θ (uF S 218 0 v) ω := h.kp ((KK.rf S).nF rfl)
theorem Idle.thr {Θ : GP} {S : PZ} (h : Idle Θ S) {v : Int32} : Idle Θ (uF S 218 0 v) := h.nF (by omega)
/-- the numbers of props and of people -/
theorem Core.P {Θ : GP} {S : PZ} {ω : OW} (h : Core Θ S ω) : zA S 219 0 = nI (cP (zA S 219)) ∧ cP (zA S 219) ≤ 8 ∧ zF S 14 0 = nI (cP (zA S 219)) := by
  obtain ⟨k, h1, h2⟩ := h.1.1.1
  have e : cP (zA S 219) = k := by unfold cP; rw [h2]; exact nI_clamp (by omega)
  have := h.1.2.1.1.1
  rw [e, this]
  exact ⟨h2, h1, h2⟩
theorem Core.O {Θ : GP} {S : PZ} {ω : OW} (h : Core Θ S ω) : zA S 219 1 = nI (cO' (zA S 219)) ∧ cO' (zA S 219) ≤ 6 ∧ zF S 14 1 = nI (cO' (zA S 219)) := by
  obtain ⟨k, h1, h2⟩ := h.1.1.2.1
  have e : cO' (zA S 219) = k := by unfold cO'; rw [h2]; exact nI_clamp (by omega)
  have := h.1.2.1.1.2.1
  rw [e, this]
  exact ⟨h2, h1, h2⟩
section XB
variable {Θ : GP} {S : PZ} {ω : OW} {n : Nat}
theorem x_needProp_y {p : Nat} (hC : Core Θ S ω) (hp : p < cP (zA S 219)) : F_X10_needProp Θ (gb Θ) (nI p) (laz Θ S ω) n = some (.inl (none, laz Θ S ω, n)) := by
  have h := hC.P
  unfold F_X10_needProp
  rw [if_neg (nI_pos (by omega)), r10_0, a14_0, h.2.2, if_pos (nI_lt hp (by omega))]
theorem x_needProp_n {v : Int32} (hC : Core Θ S ω) (hp : ¬ ∃ p, p < cP (zA S 219) ∧ v = nI p) : F_X10_needProp Θ (gb Θ) v (laz Θ S ω) n = some (.inr ("java/lang/IndexOutOfBoundsException", laz Θ S ω)) := by
  have h := hC.P
  unfold F_X10_needProp J_X10_needProp_15
  rcases q_out (by omega) hp with q | ⟨q1, q2⟩
  · rw [if_pos q]
  · rw [if_neg q1, r10_0, a14_0, h.2.2, if_neg (q_nle q2)]
theorem x_needOne_y {p : Nat} (hC : Core Θ S ω) (hp : p < cO' (zA S 219)) : F_X10_needOne Θ (gb Θ) (nI p) (laz Θ S ω) n = some (.inl (none, laz Θ S ω, n)) := by
  have h := hC.O
  unfold F_X10_needOne
  rw [if_neg (nI_pos (by omega)), r10_0, a14_1, h.2.2, if_pos (nI_lt hp (by omega))]
theorem x_needOne_n {v : Int32} (hC : Core Θ S ω) (hp : ¬ ∃ p, p < cO' (zA S 219) ∧ v = nI p) : F_X10_needOne Θ (gb Θ) v (laz Θ S ω) n = some (.inr ("java/lang/IndexOutOfBoundsException", laz Θ S ω)) := by
  have h := hC.O
  unfold F_X10_needOne J_X10_needOne_15
  rcases q_out (by omega) hp with q | ⟨q1, q2⟩
  · rw [if_pos q]
  · rw [if_neg q1, r10_0, a14_1, h.2.2, if_neg (q_nle q2)]
theorem x_needSlot_y {p : Nat} (hp : p < 10) : F_X10_needSlot Θ (gb Θ) (nI p) (laz Θ S ω) n = some (.inl (none, laz Θ S ω, n)) := by
  unfold F_X10_needSlot
  rw [if_neg (nI_pos (by omega)), if_pos (show nI p < 10 from (nI_ltI (b := 10) (by omega) (by omega)).mpr hp)]
theorem x_needSlot_n {v : Int32} (hp : ¬ ∃ p, p < 10 ∧ v = nI p) : F_X10_needSlot Θ (gb Θ) v (laz Θ S ω) n = some (.inr ("java/lang/IndexOutOfBoundsException", laz Θ S ω)) := by
  unfold F_X10_needSlot J_X10_needSlot_10
  rcases q_out (by omega) hp with q | ⟨q1, q2⟩
  · rw [if_pos q]
  · rw [if_neg q1, if_neg (show ¬ v < 10 from q_nle (P := 10) q2)]
end XB
/-! promises 6, 45, 3, 8 -/
theorem pc4 (Θ : GP) : PC_4 Θ (gb Θ) (gb Θ + 218) (gb Θ + 234) (Inv Θ) := by
  intro v xs i hI
  obtain ⟨S, ω, rfl, hC, hI⟩ := hI
  refine fin_I fun n _ => ⟨zF S 0 14, S, ω, n, ?_, fun n2 => ⟨uF S 218 0 0, n2, ?_, hC.thr, hI.thr⟩⟩
  · show F_X10_fault Θ (gb Θ) (laz Θ S ω) n = _
    unfold F_X10_fault
    rw [r10_14]
  · show F_X11_fault Θ (gb Θ + 218) (laz Θ S ω) n2 = _
    unfold F_X11_fault
    rw [b218_0, a218_14, zF_uF, if_neg (by decide), hC.2.2.2.1]
theorem pc1 (Θ : GP) : PC_1 Θ (gb Θ) (gb Θ + 218) (gb Θ + 234) (Inv Θ) := by
  intro v xs i hI
  obtain ⟨S, ω, rfl, hC, hI⟩ := hI
  obtain ⟨len, l1, l2, l3⟩ := hC.2.1
  show stI _ _ (fun ω n => F_X10_end Θ (gb Θ) (xs (i + 1)) ω n) (fun ω n => F_X11_end Θ (gb Θ + 218) (xs (i + 1)) ω n) _ _
  generalize xs (i + 1) = v
  by_cases hv : ∃ k, k < len + 1 ∧ v = nI k
  · obtain ⟨k, hk, rfl⟩ := hv
    refine fin_I fun n _ => ⟨1, uF S 1 0 (nI k), ω, n, ?_, fun n2 => ⟨uF (uF (uF S 1 0 (nI k)) 218 0 0) 218 9 (nI k), n2, ?_, ?_, ?_⟩⟩
    · show F_X10_end Θ (gb Θ) (nI k) (laz Θ S ω) n = _
      unfold F_X10_end
      rw [if_neg (nI_pos (by omega)), r10_5, a1_0, l2, if_pos (nI_le (by omega) (by omega)), r10_5, b1_0]
    · show F_X11_end Θ (gb Θ + 218) (nI k) (laz Θ _ ω) n2 = _
      unfold F_X11_end
      rw [b218_0, if_neg (nI_pos (by omega)), a218_9]
      simp only [zF_uF, zF_uA, zF_uL, zF_uR, zA_uF, zA_uA, zA_uL, zA_uR, zL_uF, zL_uA, zL_uL, zL_uR, zR_uF, zR_uA, zR_uL, zR_uR, Nat.reduceEqDiff, and_false, and_true, true_and, false_and, and_self, ↓reduceIte, reduceCtorEq, ne_eq, not_false_eq_true]
      rw [l3, if_pos (nI_le (by omega) (by omega)), b218_9]
    · exact hC.kt ((((KK.rf S).nF (by decide)).nF (by decide)).nF (by decide)) ⟨k, by omega, rfl, rfl⟩ hC.2.2.1 hC.2.2.2.1
    · exact ((hI.nF (by omega)).nF (by omega)).nF (by omega)
  · have hq : v < 0 ∨ ¬ v ≤ nI len := by
      rcases q_out (by omega) hv with q | ⟨q1, q2⟩
      · exact Or.inl q
      · right
        rw [Int32.le_iff_toInt_le, nI_toInt (by omega)] at q2 ⊢
        omega
    refine fin_I fun n _ => ⟨0, S, ω, n, ?_, fun n2 => ⟨uF S 218 0 0, n2, ?_, hC.thr, hI.thr⟩⟩
    · show F_X10_end Θ (gb Θ) v (laz Θ S ω) n = _
      unfold F_X10_end J_X10_end_15
      by_cases h0 : v < 0
      · rw [if_pos h0]
      · rw [if_neg h0, r10_5, a1_0, l2, if_neg (hq.resolve_left h0)]
    · show F_X11_end Θ (gb Θ + 218) v (laz Θ S ω) n2 = _
      unfold F_X11_end J_X11_end_17
      by_cases h0 : v < 0
      · rw [b218_0, if_pos h0]
      · rw [b218_0, if_neg h0, a218_9]
        simp only [zF_uF, zF_uA, zF_uL, zF_uR, zA_uF, zA_uA, zA_uL, zA_uR, zL_uF, zL_uA, zL_uL, zL_uR, zR_uF, zR_uA, zR_uL, zR_uR, Nat.reduceEqDiff, and_false, and_true, true_and, false_and, and_self, ↓reduceIte, reduceCtorEq, ne_eq, not_false_eq_true]
        rw [l3, if_neg (hq.resolve_left h0)]
