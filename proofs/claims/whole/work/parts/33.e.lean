/-! promises 14, 15, 16, 17, 45 -/
theorem CR.thr {S : PZ} {w : Nat → Int32} (h : CR S 14 w) {k : Nat} {x : Int64} {v : Int32} : CR (uF (uL S k x) 218 0 v) 14 w := h.congr (fun k j a b => by rw [zF_uF, if_neg (by omega), zF_uL]) (fun k a b => rfl)
theorem CR.thr0 {S : PZ} {w : Nat → Int32} (h : CR S 14 w) {v : Int32} : CR (uF S 218 0 v) 14 w := h.congr (fun k j a b => by rw [zF_uF, if_neg (by omega)]) (fun k a b => rfl)
theorem m_waits_y {Θ : GP} {S : PZ} {ω : OW} {n p : Nat} (hp : p < 6) (h : zA S 219 (4 * p + 44) = 0) : F_X11_waits Θ (gb Θ + 218) (nI p) (laz Θ S ω) n = some (.inl (some (.int 1), laz Θ S ω, n)) := by
  rw [m_waits hp, if_pos h]
theorem m_waits_n {Θ : GP} {S : PZ} {ω : OW} {n p : Nat} (hp : p < 6) (h : ¬ zA S 219 (4 * p + 44) = 0) : F_X11_waits Θ (gb Θ + 218) (nI p) (laz Θ S ω) n = some (.inl (some (.int 0), laz Θ S ω, n)) := by
  rw [m_waits hp, if_neg h]
theorem le9 {k : Nat} (hk : k < 10) : nI k ≤ 9 := nI_le (b := 9) (by omega) (by decide)
theorem in09_y {n : Nat} {Θ : GP} {k : Nat} (hk : k < 10) (ω : OW) : F_X11_in Θ (nI k) 0 9 ω n = some (.inl (some (.int 1), ω, n)) := by
  rw [m_in1]
  rintro (h | h)
  · exact nI_pos (by omega) h
  · have := (nI_ltI (a := 9) (b := k) (by omega) (by omega)).mp h
    omega
theorem pc15 (Θ : GP) : PC_15 Θ (gb Θ) (gb Θ + 218) (gb Θ + 234) (Inv Θ) := by
  intro v xs i hI
  obtain ⟨S, ω, rfl, hC, hI⟩ := hI
  show stW Θ _ _ (fun ω n => W_calm Θ (gb Θ) (xs (i + 1)) (gb Θ + 234) ω n) (fun ω n => F_X11_calm Θ (gb Θ + 218) (xs (i + 1)) ω n) _ _
  generalize xs (i + 1) = v
  by_cases hv : ∃ s, s < 10 ∧ v = nI s
  · obtain ⟨k, hk, rfl⟩ := hv
    refine fin_W fun n _ => ?_
    obtain ⟨S1, A, e1, r⟩ := x_remember (n := n) hC
    have r9 : zA (rmM (uF (uL (uF S1 14 3 (nI k)) 234 (zA S 219 5).toInt64) 218 0 0) A) 219 = zA S 219 := r.2.2.2.2.1
    refine ⟨0, uL (uF S1 14 3 (nI k)) 234 (zA S 219 5).toInt64, ω, ?_, fun n2 => ⟨zA S 219 5, uA (rmM (uF (uL (uF S1 14 3 (nI k)) 234 (zA S 219 5).toInt64) 218 0 0) A) 219 (upd (zA S 219) 5 (nI k)), n2, ?_, rfl, fun _ => rfl, ?_, ?_⟩⟩
    · show W_calm Θ (gb Θ) (nI k) (gb Θ + 234) (laz Θ S ω) n = _
      unfold W_calm F_X10_calm
      rw [c10w, if_neg (nI_pos (by omega)), if_pos (le9 hk), r10_4, r10_0, d50, e1, kV_v, r10_0, a14_3, r10_0, b14_3, r.2.2.2.1.1.2.2.2.1, wrJ_v]
    · show F_X11_calm Θ (gb Θ + 218) (nI k) (laz Θ _ ω) n2 = _
      unfold F_X11_calm J_X11_calm_21
      rw [b218_0, in09_y hk, kI_v, if_neg (by decide), d218, m_throwsIf0, kI_v, if_pos rfl, d218, m_remembers (A := A) (by exact r.2.1) r.1, kV_v, a218_1, lI_lit, l_219 (by decide), a218_1, sI_lit, s_219 (by decide), r9]
    · exact Core.act r (((KK.rf S1).nF rfl).nL.nF rfl) rfl (fun k q => upd_ne _ _ (by omega)) (hC.1.1.put (by omega) (by omega) (fun _ => ⟨k, by omega, rfl⟩) (by omega) (by omega) (fun p hp => ⟨by omega, by omega, by omega, by omega⟩) (fun a ha => ⟨by omega, by omega, by omega, by omega⟩)) (r.2.2.2.1.calm (nI k)).thr
    · exact (((((r.idle hI).nF (by omega)).nL).nF (by omega)).rm A).nA (by omega)
  · refine fin_W fun n _ => ⟨1, S, ω, ?_, fun n2 => ⟨0, uF (uF S 218 0 0) 218 0 1, n2, ?_, rfl, fun h => absurd h (by decide), hC.thr.thr, hI.thr.thr⟩⟩
    · show W_calm Θ (gb Θ) v (gb Θ + 234) (laz Θ S ω) n = _
      unfold W_calm F_X10_calm J_X10_calm_10
      rcases q_out (by decide) hv with q | ⟨q1, q2⟩
      · rw [c10w, if_pos q, wrJ_x]
      · rw [c10w, if_neg q1, if_neg, wrJ_x]
        rw [Int32.le_iff_toInt_le, nI_toInt (by omega)] at q2
        rw [Int32.le_iff_toInt_le, show (9 : Int32).toInt = 9 by decide]
        omega
    · show F_X11_calm Θ (gb Θ + 218) v (laz Θ S ω) n2 = _
      unfold F_X11_calm J_X11_calm_21
      rw [b218_0, in_n (N := 10) (by decide) (by decide) hv, kI_v, if_pos rfl, d218, m_throwsIf1, kI_v, if_neg (by decide)]
theorem pc43 (Θ : GP) : PC_43 Θ (gb Θ) (gb Θ + 218) (gb Θ + 234) (Inv Θ) := by
  intro v xs i hI
  obtain ⟨S, ω, rfl, hC, hI⟩ := hI
  show stI _ _ (fun ω n => F_X10_seed Θ (gb Θ) (xs (i + 1)) ω n) (fun ω n => F_X11_seed Θ (gb Θ + 218) (xs (i + 1)) ω n) _ _
  generalize xs (i + 1) = v
  refine fin_I fun n _ => ⟨zA S 219 8, uF S 14 6 v, ω, n, ?_, fun n2 => ⟨uA (uF (uF S 14 6 v) 218 0 0) 219 (upd (zA S 219) 8 v), n2, ?_, ?_, ?_⟩⟩
  · show F_X10_seed Θ (gb Θ) v (laz Θ S ω) n = _
    unfold F_X10_seed
    rw [r10_0, a14_6, r10_0, b14_6, hC.1.2.1.1.2.2.2.2.2.2]
  · show F_X11_seed Θ (gb Θ + 218) v (laz Θ _ ω) n2 = _
    unfold F_X11_seed
    rw [b218_0, a218_1, lI_lit, l_219 (by decide), a218_1, sI_lit, s_219 (by decide)]
    rfl
  · refine hC.now ((((KK.rf S).nF rfl).nF rfl).nA rfl) (fun k q => ?_) ?_ ?_
    · rw [zA_uA, if_pos rfl]; exact upd_ne _ _ (by omega)
    · rw [zA_uA, if_pos rfl]
      exact hC.1.1.put (by omega) (by omega) (by omega) (by omega) (by omega) (fun p hp => ⟨by omega, by omega, by omega, by omega⟩) (fun a ha => ⟨by omega, by omega, by omega, by omega⟩)
    · rw [zA_uA, if_pos rfl]
      exact (hC.1.2.1.seed v).thr0.congr (fun k j a b => rfl) (fun k a b => by rw [zA_uA, if_neg (by omega)])
  · exact ((hI.nF (by omega)).nF (by omega)).nA (by omega)
theorem pc12 (Θ : GP) : PC_12 Θ (gb Θ) (gb Θ + 218) (gb Θ + 234) (Inv Θ) := by
  intro v xs i hI
  obtain ⟨S, ω, rfl, hC, hI⟩ := hI
  have hP := hC.P
  show stW Θ _ _ (fun ω n => W_mend Θ (gb Θ) (xs (i + 1)) (gb Θ + 234) ω n) (fun ω n => F_X11_mend Θ (gb Θ + 218) (xs (i + 1)) ω n) _ _
  generalize xs (i + 1) = v
  by_cases hv : ∃ s, s < cP (zA S 219) ∧ v = nI s
  · obtain ⟨p, hp, rfl⟩ := hv
    refine fin_W fun n _ => ?_
    obtain ⟨S1, A, e1, r⟩ := x_remember (n := n) hC
    have r9 : zA (rmM (uF (uL (uA S1 17 (upd (zA S1 17) p 0)) 234 (zA S 219 (4 * p + 11)).toInt64) 218 0 0) A) 219 = zA S 219 := r.2.2.2.2.1
    refine ⟨0, uL (uA S1 17 (upd (zA S1 17) p 0)) 234 (zA S 219 (4 * p + 11)).toInt64, ω, ?_, fun n2 => ⟨zA S 219 (4 * p + 11), uA (rmM (uF (uL (uA S1 17 (upd (zA S1 17) p 0)) 234 (zA S 219 (4 * p + 11)).toInt64) 218 0 0) A) 219 (upd (zA S 219) (4 * p + 11) 0), n2, ?_, rfl, fun _ => rfl, ?_, ?_⟩⟩
    · show W_mend Θ (gb Θ) (nI p) (gb Θ + 234) (laz Θ S ω) n = _
      unfold W_mend F_X10_mend
      rw [c10w, c10, x_needProp_y hC hp, kV_v, r10_4, r10_0, d50, e1, kV_v, r10_0, a14_9, l_17 (by omega), r10_0, a14_9, s_17 (by omega), (CRp r.2.2.2.1 hp).2.2.1, wrJ_v]
    · show F_X11_mend Θ (gb Θ + 218) (nI p) (laz Θ _ ω) n2 = _
      unfold F_X11_mend F_X11_propAt
      rw [b218_0, d218, m_noProp_y (P := cP (zA S 219)) (by rw [← hP.1]; exact congrFun r.2.2.2.2.1 0) hP.2.1 hp, kI_v, d218, m_throwsIf0, kI_v, if_pos rfl, d218, m_remembers (A := A) (by exact r.2.1) r.1, kV_v, d218, m_ofProp2 (by omega), kI_v, a218_1, kI_v, ixp2, s_219 (by omega), r9]
    · exact Core.act r (((KK.rf S1).nA rfl).nL.nF rfl) rfl (fun k q => upd_ne _ _ (by omega)) (hC.1.1.put (by omega) (by omega) (by omega) (by omega) (by omega) (fun q hq => ⟨by omega, by omega, fun _ => ⟨0, by omega, rfl⟩, by omega⟩) (fun a ha => ⟨by omega, by omega, by omega, by omega⟩)) (r.2.2.2.1.worn (by omega) 0).thr
    · exact (((((r.idle hI).nA (by omega)).nL).nF (by omega)).rm A).nA (by omega)
  · refine fin_W fun n _ => ⟨1, S, ω, ?_, fun n2 => ⟨0, uF (uF S 218 0 0) 218 0 1, n2, ?_, rfl, fun h => absurd h (by decide), hC.thr.thr, hI.thr.thr⟩⟩
    · show W_mend Θ (gb Θ) v (gb Θ + 234) (laz Θ S ω) n = _
      unfold W_mend F_X10_mend
      rw [c10w, c10, x_needProp_n hC hv, kV_x, wrJ_x]
    · show F_X11_mend Θ (gb Θ + 218) v (laz Θ S ω) n2 = _
      unfold F_X11_mend
      rw [b218_0, d218, m_noProp_n (by exact hP.1) hP.2.1 hv, kI_v, d218, m_throwsIf1, kI_v, if_neg (by decide)]
theorem x_needState_y {Θ : GP} {S : PZ} {ω : OW} {n p : Nat} {st : Int32} (hC : Core Θ S ω) (hp : p < cO' (zA S 219)) (hs : zA S 219 (4 * p + 44) = st) : F_X10_needState Θ (gb Θ) (nI p) st (laz Θ S ω) n = some (.inl (none, laz Θ S ω, n)) := by
  have := hC.O
  unfold F_X10_needState
  rw [r10_0, a14_15, l_23 (by omega), (CRa hC.1.2.1 hp).2.2.2, if_pos hs]
theorem x_needState_n {Θ : GP} {S : PZ} {ω : OW} {n p : Nat} {st : Int32} (hC : Core Θ S ω) (hp : p < cO' (zA S 219)) (hs : ¬ zA S 219 (4 * p + 44) = st) : F_X10_needState Θ (gb Θ) (nI p) st (laz Θ S ω) n = some (.inr ("java/lang/IllegalStateException", laz Θ S ω)) := by
  have := hC.O
  unfold F_X10_needState
  rw [r10_0, a14_15, l_23 (by omega), (CRa hC.1.2.1 hp).2.2.2, if_neg hs]
theorem is_ne : ("java/lang/IllegalStateException" : String) ≠ "java/lang/IndexOutOfBoundsException" := by decide
theorem pc13 (Θ : GP) : PC_13 Θ (gb Θ) (gb Θ + 218) (gb Θ + 234) (Inv Θ) := by
  intro v xs i hI
  obtain ⟨S, ω, rfl, hC, hI⟩ := hI
  have hP := hC.O
  show stU Θ _ (fun ω n => W_recall Θ (gb Θ) (xs (i + 1)) ω n) (fun ω n => F_X11_recall Θ (gb Θ + 218) (xs (i + 1)) ω n) _ _
  generalize xs (i + 1) = v
  by_cases hv : ∃ s, s < cO' (zA S 219) ∧ v = nI s
  · obtain ⟨p, hp, rfl⟩ := hv
    by_cases hs : zA S 219 (4 * p + 44) = 2
    · refine fin_U fun n _ => ?_
      obtain ⟨S1, A, e1, r⟩ := x_remember (n := n) hC
      have r9 : zA (rmM (uF (uA S1 23 (upd (zA S1 23) p 0)) 218 0 0) A) 219 = zA S 219 := r.2.2.2.2.1
      refine ⟨0, uA S1 23 (upd (zA S1 23) p 0), ω, ?_, fun n2 => ⟨uA (rmM (uF (uA S1 23 (upd (zA S1 23) p 0)) 218 0 0) A) 219 (upd (zA S 219) (4 * p + 44) 0), n2, ?_, rfl, ?_, ?_⟩⟩
      · show W_recall Θ (gb Θ) (nI p) (laz Θ S ω) n = _
        unfold W_recall F_X10_recall
        rw [c10w, c10, x_needOne_y hC hp, kV_v, c10, x_needState_y hC hp hs, kV_v, r10_4, r10_0, d50, e1, kV_v, r10_0, a14_15, s_23 (by omega), wrV_v]
      · show F_X11_recall Θ (gb Θ + 218) (nI p) (laz Θ _ ω) n2 = _
        unfold F_X11_recall J_X11_recall_34 F_X11_oneAt
        have hs' : zA (uF (uA S1 23 (upd (zA S1 23) p 0)) 218 0 0) 219 (4 * p + 44) = 2 := (congrFun r.2.2.2.2.1 _).trans hs
        rw [b218_0, d218, m_noOne_y (P := cO' (zA S 219)) (by rw [← hP.1]; exact congrFun r.2.2.2.2.1 1) hP.2.1 hp, kI_v, d218, m_throwsIf0, kI_v, if_pos rfl, d218, m_of3 (by omega), kI_v, if_pos hs', d218, m_throwsIf0, kI_v, if_pos rfl, d218, m_remembers (A := A) (by exact r.2.1) r.1, kV_v, a218_1, kI_v, ixa3, s_219 (by omega), r9]
      · exact Core.act r (((KK.rf S1).nA rfl).nF rfl) rfl (fun k q => upd_ne _ _ (by omega)) (hC.1.1.put (by omega) (by omega) (by omega) (by omega) (by omega) (fun q hq => ⟨by omega, by omega, by omega, by omega⟩) (fun a ha => ⟨by omega, by omega, by omega, fun _ => ⟨0, by omega, rfl⟩⟩)) (r.2.2.2.1.stat (by omega) hC.P8 0).thr0
      · exact ((((r.idle hI).nA (by omega)).nF (by omega)).rm A).nA (by omega)
    · refine fin_U fun n _ => ⟨2, S, ω, ?_, fun n2 => ⟨uF (uF S 218 0 0) 218 0 2, n2, ?_, rfl, hC.thr.thr, hI.thr.thr⟩⟩
      · show W_recall Θ (gb Θ) (nI p) (laz Θ S ω) n = _
        unfold W_recall F_X10_recall
        rw [c10w, c10, x_needOne_y hC hp, kV_v, c10, x_needState_n hC hp hs, kV_x, wrV_x2 is_ne]
      · show F_X11_recall Θ (gb Θ + 218) (nI p) (laz Θ S ω) n2 = _
        unfold F_X11_recall J_X11_recall_34 J_X11_recall_41
        have hs' : ¬ zA (uF S 218 0 0) 219 (4 * p + 44) = 2 := hs
        rw [b218_0, d218, m_noOne_y (by exact hP.1) hP.2.1 hp, kI_v, d218, m_throwsIf0, kI_v, if_pos rfl, d218, m_of3 (by omega), kI_v, if_neg hs', d218, m_throwsIf1, kI_v, if_neg (by decide)]
  · refine fin_U fun n _ => ⟨1, S, ω, ?_, fun n2 => ⟨uF (uF S 218 0 0) 218 0 1, n2, ?_, rfl, hC.thr.thr, hI.thr.thr⟩⟩
    · show W_recall Θ (gb Θ) v (laz Θ S ω) n = _
      unfold W_recall F_X10_recall
      rw [c10w, c10, x_needOne_n hC hv, kV_x, wrV_x1]
    · show F_X11_recall Θ (gb Θ + 218) v (laz Θ S ω) n2 = _
      unfold F_X11_recall J_X11_recall_41
      rw [b218_0, d218, m_noOne_n (by exact hP.1) hP.2.1 hv, kI_v, d218, m_throwsIf1, kI_v, if_neg (by decide)]
/-- how many bits -/
def bcS (l0 : Int32) : Int32 := ((((((((l0 - ((((l0 : Int32).toUInt32 >>> ((1 : Int32).toUInt32 &&& Int32.toUInt32 31)).toInt32) &&& 1431655765)) &&& 858993459) + ((((l0 - ((((l0 : Int32).toUInt32 >>> ((1 : Int32).toUInt32 &&& Int32.toUInt32 31)).toInt32) &&& 1431655765) : Int32).toUInt32 >>> ((2 : Int32).toUInt32 &&& Int32.toUInt32 31)).toInt32) &&& 858993459)) + (((((l0 - ((((l0 : Int32).toUInt32 >>> ((1 : Int32).toUInt32 &&& Int32.toUInt32 31)).toInt32) &&& 1431655765)) &&& 858993459) + ((((l0 - ((((l0 : Int32).toUInt32 >>> ((1 : Int32).toUInt32 &&& Int32.toUInt32 31)).toInt32) &&& 1431655765) : Int32).toUInt32 >>> ((2 : Int32).toUInt32 &&& Int32.toUInt32 31)).toInt32) &&& 858993459) : Int32).toUInt32 >>> ((4 : Int32).toUInt32 &&& Int32.toUInt32 31)).toInt32)) &&& 252645135) + (((((((l0 - ((((l0 : Int32).toUInt32 >>> ((1 : Int32).toUInt32 &&& Int32.toUInt32 31)).toInt32) &&& 1431655765)) &&& 858993459) + ((((l0 - ((((l0 : Int32).toUInt32 >>> ((1 : Int32).toUInt32 &&& Int32.toUInt32 31)).toInt32) &&& 1431655765) : Int32).toUInt32 >>> ((2 : Int32).toUInt32 &&& Int32.toUInt32 31)).toInt32) &&& 858993459)) + (((((l0 - ((((l0 : Int32).toUInt32 >>> ((1 : Int32).toUInt32 &&& Int32.toUInt32 31)).toInt32) &&& 1431655765)) &&& 858993459) + ((((l0 - ((((l0 : Int32).toUInt32 >>> ((1 : Int32).toUInt32 &&& Int32.toUInt32 31)).toInt32) &&& 1431655765) : Int32).toUInt32 >>> ((2 : Int32).toUInt32 &&& Int32.toUInt32 31)).toInt32) &&& 858993459) : Int32).toUInt32 >>> ((4 : Int32).toUInt32 &&& Int32.toUInt32 31)).toInt32)) &&& 252645135 : Int32).toUInt32 >>> ((8 : Int32).toUInt32 &&& Int32.toUInt32 31)).toInt32)) + ((((((((l0 - ((((l0 : Int32).toUInt32 >>> ((1 : Int32).toUInt32 &&& Int32.toUInt32 31)).toInt32) &&& 1431655765)) &&& 858993459) + ((((l0 - ((((l0 : Int32).toUInt32 >>> ((1 : Int32).toUInt32 &&& Int32.toUInt32 31)).toInt32) &&& 1431655765) : Int32).toUInt32 >>> ((2 : Int32).toUInt32 &&& Int32.toUInt32 31)).toInt32) &&& 858993459)) + (((((l0 - ((((l0 : Int32).toUInt32 >>> ((1 : Int32).toUInt32 &&& Int32.toUInt32 31)).toInt32) &&& 1431655765)) &&& 858993459) + ((((l0 - ((((l0 : Int32).toUInt32 >>> ((1 : Int32).toUInt32 &&& Int32.toUInt32 31)).toInt32) &&& 1431655765) : Int32).toUInt32 >>> ((2 : Int32).toUInt32 &&& Int32.toUInt32 31)).toInt32) &&& 858993459) : Int32).toUInt32 >>> ((4 : Int32).toUInt32 &&& Int32.toUInt32 31)).toInt32)) &&& 252645135) + (((((((l0 - ((((l0 : Int32).toUInt32 >>> ((1 : Int32).toUInt32 &&& Int32.toUInt32 31)).toInt32) &&& 1431655765)) &&& 858993459) + ((((l0 - ((((l0 : Int32).toUInt32 >>> ((1 : Int32).toUInt32 &&& Int32.toUInt32 31)).toInt32) &&& 1431655765) : Int32).toUInt32 >>> ((2 : Int32).toUInt32 &&& Int32.toUInt32 31)).toInt32) &&& 858993459)) + (((((l0 - ((((l0 : Int32).toUInt32 >>> ((1 : Int32).toUInt32 &&& Int32.toUInt32 31)).toInt32) &&& 1431655765)) &&& 858993459) + ((((l0 - ((((l0 : Int32).toUInt32 >>> ((1 : Int32).toUInt32 &&& Int32.toUInt32 31)).toInt32) &&& 1431655765) : Int32).toUInt32 >>> ((2 : Int32).toUInt32 &&& Int32.toUInt32 31)).toInt32) &&& 858993459) : Int32).toUInt32 >>> ((4 : Int32).toUInt32 &&& Int32.toUInt32 31)).toInt32)) &&& 252645135 : Int32).toUInt32 >>> ((8 : Int32).toUInt32 &&& Int32.toUInt32 31)).toInt32) : Int32).toUInt32 >>> ((16 : Int32).toUInt32 &&& Int32.toUInt32 31)).toInt32)) &&& 63)
theorem e_bc {Θ : GP} {x : Int32} {ω : OW} {n : Nat} : F_J6_bitCount_0f7a4 Θ x ω n = some (.inl (some (.int (bcS x)), ω, n)) := rfl
theorem pc14 (Θ : GP) : PC_14 Θ (gb Θ) (gb Θ + 218) (gb Θ + 234) (Inv Θ) := by
  intro v xs i hI
  obtain ⟨S, ω, rfl, hC, hI⟩ := hI
  have hP := hC.O
  show stW Θ _ _ (fun ω n => W_inside Θ (gb Θ) (xs (i + 1)) (gb Θ + 234) ω n) (fun ω n => F_X11_inside Θ (gb Θ + 218) (xs (i + 1)) ω n) _ _
  generalize xs (i + 1) = v
  by_cases hv : ∃ s, s < cO' (zA S 219) ∧ v = nI s
  · obtain ⟨p, hp, rfl⟩ := hv
    by_cases hs : zA S 219 (4 * p + 44) = 0
    · refine fin_W fun n _ => ?_
      obtain ⟨S1, A, e1, r⟩ := x_remember (n := n) hC
      have hcr := r.2.2.2.1.stat (show p < 6 by omega) hC.P8 3
      have eO : cO' (upd (zA S 219) (4 * p + 44) 3) = cO' (zA S 219) := by unfold cO'; rw [upd_ne _ _ (by omega)]
      have z1 : zF (uA S1 23 (upd (zA S1 23) p 3)) 14 1 = nI (cO' (zA S 219)) := (r.2.2.2.1.1.2.1).trans hP.1
      have r9 : zA (rmM (uF (uL (uA S1 23 (upd (zA S1 23) p 3)) 234 (bcS (orL (gst (upd (zA S 219) (4 * p + 44) 3) 3) (cO' (zA S 219)) 0 0)).toInt64) 218 0 0) A) 219 = zA S 219 := r.2.2.2.2.1
      refine ⟨0, uL (uA S1 23 (upd (zA S1 23) p 3)) 234 (bcS (orL (gst (upd (zA S 219) (4 * p + 44) 3) 3) (cO' (zA S 219)) 0 0)).toInt64, ω, ?_, fun n2 => ⟨bcS (orL (gst (upd (zA S 219) (4 * p + 44) 3) 3) (cO' (zA S 219)) 0 0), uA (rmM (uF (uL (uA S1 23 (upd (zA S1 23) p 3)) 234 (bcS (orL (gst (upd (zA S 219) (4 * p + 44) 3) 3) (cO' (zA S 219)) 0 0)).toInt64) 218 0 0) A) 219 (upd (zA S 219) (4 * p + 44) 3), n2, ?_, rfl, fun _ => rfl, ?_, ?_⟩⟩
      · show W_inside Θ (gb Θ) (nI p) (gb Θ + 234) (laz Θ S ω) n = _
        unfold W_inside F_X10_inside
        rw [c10w, c10, x_needOne_y hC hp, kV_v, c10, x_needState_y hC hp hs, kV_v, r10_4, r10_0, d50, e1, kV_v, r10_0, a14_15, s_23 (by omega), r10_0, d14, x_peopleOf hcr z1 hP.2.1 eO.symm, kI_v, e_bc, kI_v, wrI_v]
      · show F_X11_inside Θ (gb Θ + 218) (nI p) (laz Θ _ ω) n2 = _
        unfold F_X11_inside J_X11_inside_32 F_X11_oneAt
        rw [b218_0, d218, m_noOne_y (P := cO' (zA S 219)) (by rw [← hP.1]; exact congrFun r.2.2.2.2.1 1) hP.2.1 hp, kI_v, d218, m_throwsIf0, kI_v, if_pos rfl, d218, m_waits_y (by omega) (by exact (congrFun r.2.2.2.2.1 _).trans hs), kI_v]
        rw [if_neg (by decide), d218, m_throwsIf0, kI_v, if_pos rfl, d218, m_remembers (A := A) (by exact r.2.1) r.1, kV_v, a218_1, kI_v, ixa3, s_219 (by omega), r9, d218, m_ofState (P := cO' (zA S 219)) ?_ hP.2.1, kI_v, e_bc, kI_v]
        · rfl
        · rw [zA_uA, if_pos rfl, upd_ne _ _ (by omega)]; exact hP.1
      · exact Core.act r (((KK.rf S1).nA rfl).nL.nF rfl) rfl (fun k q => upd_ne _ _ (by omega)) (hC.1.1.put (by omega) (by omega) (by omega) (by omega) (by omega) (fun q hq => ⟨by omega, by omega, by omega, by omega⟩) (fun a ha => ⟨by omega, by omega, by omega, fun _ => ⟨3, by omega, rfl⟩⟩)) hcr.thr
      · exact (((((r.idle hI).nA (by omega)).nL).nF (by omega)).rm A).nA (by omega)
    · refine fin_W fun n _ => ⟨2, S, ω, ?_, fun n2 => ⟨0, uF (uF S 218 0 0) 218 0 2, n2, ?_, rfl, fun h => absurd h (by decide), hC.thr.thr, hI.thr.thr⟩⟩
      · show W_inside Θ (gb Θ) (nI p) (gb Θ + 234) (laz Θ S ω) n = _
        unfold W_inside F_X10_inside
        rw [c10w, c10, x_needOne_y hC hp, kV_v, c10, x_needState_n hC hp hs, kV_x, wrI_x2 is_ne]
      · show F_X11_inside Θ (gb Θ + 218) (nI p) (laz Θ S ω) n2 = _
        unfold F_X11_inside J_X11_inside_32 J_X11_inside_39
        rw [b218_0, d218, m_noOne_y (by exact hP.1) hP.2.1 hp, kI_v, d218, m_throwsIf0, kI_v, if_pos rfl, d218, m_waits_n (by omega) (by exact hs), kI_v]
        rw [if_pos rfl, d218, m_throwsIf1, kI_v, if_neg (by decide)]
  · refine fin_W fun n _ => ⟨1, S, ω, ?_, fun n2 => ⟨0, uF (uF S 218 0 0) 218 0 1, n2, ?_, rfl, fun h => absurd h (by decide), hC.thr.thr, hI.thr.thr⟩⟩
    · show W_inside Θ (gb Θ) v (gb Θ + 234) (laz Θ S ω) n = _
      unfold W_inside F_X10_inside
      rw [c10w, c10, x_needOne_n hC hv, kV_x, wrI_x1]
    · show F_X11_inside Θ (gb Θ + 218) v (laz Θ S ω) n2 = _
      unfold F_X11_inside J_X11_inside_39
      rw [b218_0, d218, m_noOne_n (by exact hP.1) hP.2.1 hv, kI_v, d218, m_throwsIf1, kI_v, if_neg (by decide)]
