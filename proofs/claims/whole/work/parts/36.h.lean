/-! promise 10: fright -/
theorem bI_01 (v : Int32) : bI v = 0 ∨ bI v = 1 := by
  unfold bI
  split
  · exact Or.inl rfl
  · exact Or.inr rfl
theorem ia_ne : ("java/lang/IllegalArgumentException" : String) ≠ "java/lang/IndexOutOfBoundsException" := by decide
/-- the reference's small writes -/
theorem XP.law {S : PZ} {p : Nat} {t : Int32} {v : Nat → Int32} : XP S (uA (uF (uF S 218 21 (nI p)) 218 22 t) 226 v) := (((XP.rf S).nF (by omega)).nF (by omega)).nA (by omega)
theorem pc8 (Θ : GP) : PC_8 Θ (gb Θ) (gb Θ + 218) (gb Θ + 234) (Inv Θ) := by
  intro v xs i hI
  obtain ⟨S, ω, rfl, hC, hI⟩ := hI
  have hO := hC.O
  obtain ⟨lw, hL⟩ := hC.lw
  have hR : isR 202 := Or.inl rfl
  show stW Θ _ _ (fun ω n => W_fright Θ (gb Θ) (xs (i + 1)) (xs (i + 2)) (xs (i + 3)) (bI (xs (i + 4))) (gb Θ + 234) ω n) (fun ω n => F_X11_fright Θ (gb Θ + 218) (xs (i + 1)) (xs (i + 2)) (xs (i + 3)) (bI (xs (i + 4))) ω n) _ _
  have hb := bI_01 (xs (i + 4))
  generalize bI (xs (i + 4)) = b at hb ⊢
  generalize xs (i + 1) = v
  generalize xs (i + 2) = u
  generalize xs (i + 3) = t
  by_cases hv : ∃ s, s < cO' (zA S 219) ∧ v = nI s
  · obtain ⟨a, ha, rfl⟩ := hv
    by_cases hu : ∃ s, s < 10 ∧ u = nI s
    · obtain ⟨s, hs, rfl⟩ := hu
      by_cases ht : ∃ k, k < 100 ∧ t = nI k
      · obtain ⟨k, hk, rfl⟩ := ht
        have hin : ∀ (n : Nat) (z : OW), F_X11_in Θ (nI k) 0 99 z n = some (.inl (some (.int 1), z, n)) := by
          intro n z
          rw [m_in1]
          rintro (h | h)
          · exact nI_pos (by omega) h
          · exact nI_nlt (a := 99) (b := k) (by omega) (by omega) h
        have hnn : ¬ nI k < 0 := nI_pos (by omega)
        have hle : nI k ≤ 99 := nI_le (b := 99) (by omega) (by decide)
        rcases pin_cases (zA S 219) (nI s) with ⟨hp, _⟩ | ⟨p, hp, ep, es⟩
        · refine fin_W fun n _ => ⟨0, uL S 234 (0 : Int32).toInt64, ω, ?_, fun n2 => ⟨0, uF (uL S 234 (0 : Int32).toInt64) 218 0 0, n2, ?_, rfl, fun _ => rfl, hC.nL.thr, hI.nL.thr⟩⟩
          · show W_fright Θ (gb Θ) (nI a) (nI s) (nI k) b (gb Θ + 234) (laz Θ S ω) n = _
            unfold W_fright F_X10_fright
            rw [c10w, c10, x_needOne_y hC ha, kV_v, c10, x_needSlot_y hs, kV_v, if_neg hnn, if_pos hle, r10_0, a14_11, l_19 hs, CRt hC.1.2.1 hs, hp, if_neg (by decide), wrI_v]
          · show F_X11_fright Θ (gb Θ + 218) (nI a) (nI s) (nI k) b (laz Θ _ ω) n2 = _
            unfold F_X11_fright J_X11_fright_26 J_X11_fright_49
            rw [b218_0, d218, m_noOne_y (by exact hO.1) hO.2.1 ha, kI_v, if_pos rfl, m_noSlot_y hs, kI_v, if_pos rfl, d218, m_throwsIf0, kI_v, if_pos rfl, hin, kI_v, if_neg (by decide), d218, m_throwsIf0, kI_v, if_pos rfl, d218, m_propIn' (w := zA S 219) (by rfl) hC.1.1, kI_v, if_pos hp]
        · have hP8 := hC.P8
          have hn : (cPar (zA S 219) lw a false false).2.2.1 s ≠ -1 := by
            show pin (zA S 219) (nI s) ≠ -1
            rw [ep]; exact fun h => (q_m1 (by omega)).mp h
          have er : rpr (cPar (zA S 219) lw a false false) s = p := by
            show (pin (zA S 219) (nI s)).toNatClampNeg = p
            rw [ep]; exact nI_clamp (by omega)
          have hrk : Rg (nI k) 100000 := ⟨k, by omega, rfl⟩
          have hFB := rfc_fb (cPar_ok hC.1.1 hL.2 (by omega) false false) hs hn hrk
          have erf : rfc (cPar (zA S 219) lw a false false) s (nI k) = fcS (zA S 219) p (nI k) (zA S 219 (4 * a + 42)) (zA S 219 (4 * a + 43)) (zA S 219 (4 * a + 41)) := by
            unfold rfc
            rw [er]
            rfl
          obtain ⟨rx, xl⟩ := x_ready hR hC ha hL false false rfl
          refine fin_W fun n _ => ?_
          obtain ⟨f, m1, m2⟩ := x_meet (n := n) hR rx hs hn (nI k)
          obtain ⟨fs, o1, o2⟩ := x_law_ob rx
          have xl2 := xl.nA (k := 207) (f := f) (by omega)
          let S1 := uA (uF (uF (uF (uF (uA (uA S (202 + 1) (va_cpy (zA S 19) (zA S (202 + 1)) 0 0 10)) (202 + 2) (va_cpy (zA S 17) (zA S (202 + 2)) 0 0 8)) 202 6 (-1)) 202 3 (zA (uF (uA (uA S (202 + 1) (va_cpy (zA S 19) (zA S (202 + 1)) 0 0 10)) (202 + 2) (va_cpy (zA S 17) (zA S (202 + 2)) 0 0 8)) 202 6 (-1)) 20 a)) 202 4 (zA (uF (uA (uA S (202 + 1) (va_cpy (zA S 19) (zA S (202 + 1)) 0 0 10)) (202 + 2) (va_cpy (zA S 17) (zA S (202 + 2)) 0 0 8)) 202 6 (-1)) 21 a)) 202 5 (zA (uF (uA (uA S (202 + 1) (va_cpy (zA S 19) (zA S (202 + 1)) 0 0 10)) (202 + 2) (va_cpy (zA S 17) (zA S (202 + 2)) 0 0 8)) 202 6 (-1)) 22 a)) 207 f
          have hx19 : zA S1 219 = zA S 219 := xl2.2.1 219 (by omega)
          let ans := if b = 0 then frS lw (rfc (cPar (zA S 219) lw a false false) s (nI k)) else weS lw (rfc (cPar (zA S 219) lw a false false) s (nI k))
          refine ⟨0, uL S1 234 ans.toInt64, ω, ?_, fun n2 => ?_⟩
          · show W_fright Θ (gb Θ) (nI a) (nI s) (nI k) b (gb Θ + 234) (laz Θ S ω) n = _
            unfold W_fright F_X10_fright J_X10_fright_102
            rw [c10w, c10, x_needOne_y hC ha, kV_v, c10, x_needSlot_y hs, kV_v, if_neg hnn, if_pos hle, r10_0, a14_11, l_19 hs, CRt hC.1.2.1 hs, ep, if_pos (nI_pos' (by omega)), r10_8, d202, x_lay hR, kV_v, r10_8, d202, x_board hR (by omega), kV_v, r10_8, d202, m1, kA_v]
            rcases hb with rfl | rfl
            · rw [if_pos rfl, r10_0, a14_17, zR_uA, o_cO o1 o2]
              have := x_frAt (n := n) hR rx hs hn hrk m2
              exact (congrArg (fun r => wrI Θ (gb Θ + 234) "java/lang/IndexOutOfBoundsException" "java/lang/IllegalArgumentException" (kI r (fun x18 ω n => some (.inl (some (.int x18), ω, n))))) this).trans wrI_v
            · rw [if_neg (by decide), r10_0, a14_17, zR_uA, o_cO o1 o2]
              have := x_weAt (n := n) hR rx hs hn hrk m2
              exact (congrArg (fun r => wrI Θ (gb Θ + 234) "java/lang/IndexOutOfBoundsException" "java/lang/IllegalArgumentException" (kI r (fun x18 ω n => some (.inl (some (.int x18), ω, n))))) this).trans wrI_v
          · let T := uF (uF (uF (uF (uL S1 234 ans.toInt64) 218 0 0) 218 18 (zA S1 219 (4 * a + 41))) 218 19 (zA S1 219 (4 * a + 42))) 218 20 (zA S1 219 (4 * a + 43))
            have hT : XP (uF (uL S1 234 ans.toInt64) 218 0 0) T := (((XP.rf _).nF (by omega)).nF (by omega)).nF (by omega)
            have hTM : LawM (zA T 219) lw := by
              have : zA T 219 = zA S 219 := hx19
              rw [this]; exact hL.2
            have ef : fcS (zA T 219) p (nI k) (zA S1 219 (4 * a + 42)) (zA S1 219 (4 * a + 43)) (zA S1 219 (4 * a + 41)) = rfc (cPar (zA S 219) lw a false false) s (nI k) := by
              have : zA T 219 = zA S 219 := hx19
              rw [this, hx19, erf]
            rcases hb with rfl | rfl
            · obtain ⟨v', e⟩ := m_frightsBy (Θ := Θ) (S := T) (ω := ω) (n := n2) (p := p) (t := nI k) (nv := zA S1 219 (4 * a + 42)) (kn := zA S1 219 (4 * a + 43)) (dd := zA S1 219 (4 * a + 41)) (by omega) rfl rfl rfl hTM (by rw [ef]; exact hFB)
              rw [ef] at e
              have xp := hT.trans (XP.law (S := T) (p := p) (t := nI k) (v := v'))
              refine ⟨ans, _, n2, ?_, (xp.1 218 0 (by omega)).trans rfl, fun _ => (xp.2.2.2 234).trans rfl, (((hC.kp (xl2.kp hR)).nL).thr).kp xp.kp, xp.idle ((xl2.idle hR hI).nL.thr)⟩
              show F_X11_fright Θ (gb Θ + 218) (nI a) (nI s) (nI k) 0 (laz Θ (uL S1 234 ans.toInt64) ω) n2 = _
              unfold F_X11_fright J_X11_fright_26 J_X11_fright_49 J_X11_fright_100
              rw [b218_0, d218, m_noOne_y (P := cO' (zA S 219)) (by rw [← hO.1]; exact congrFun hx19 1) hO.2.1 ha, kI_v, if_pos rfl, m_noSlot_y hs, kI_v, if_pos rfl, d218, m_throwsIf0, kI_v, if_pos rfl, hin, kI_v, if_neg (by decide), d218, m_throwsIf0, kI_v, if_pos rfl, d218, m_propIn' (w := zA S 219) (by exact hx19) hC.1.1, kI_v, ep, if_neg (fun h => (q_m1 (by omega)).mp h), d218, m_looksAt (by omega), kV_v, if_pos rfl, d218]
              exact (congrArg (fun r => kI r (fun x7 ω n => some (.inl (some (.int x7), ω, n)))) e).trans rfl
            · obtain ⟨v', e⟩ := m_wearsBy (Θ := Θ) (S := T) (ω := ω) (n := n2) (p := p) (t := nI k) (nv := zA S1 219 (4 * a + 42)) (kn := zA S1 219 (4 * a + 43)) (dd := zA S1 219 (4 * a + 41)) (by omega) rfl rfl rfl hTM (by rw [ef]; exact hFB)
              rw [ef] at e
              have xp := hT.trans (XP.law (S := T) (p := p) (t := nI k) (v := v'))
              refine ⟨ans, _, n2, ?_, (xp.1 218 0 (by omega)).trans rfl, fun _ => (xp.2.2.2 234).trans rfl, (((hC.kp (xl2.kp hR)).nL).thr).kp xp.kp, xp.idle ((xl2.idle hR hI).nL.thr)⟩
              show F_X11_fright Θ (gb Θ + 218) (nI a) (nI s) (nI k) 1 (laz Θ (uL S1 234 ans.toInt64) ω) n2 = _
              unfold F_X11_fright J_X11_fright_26 J_X11_fright_49 J_X11_fright_100
              rw [b218_0, d218, m_noOne_y (P := cO' (zA S 219)) (by rw [← hO.1]; exact congrFun hx19 1) hO.2.1 ha, kI_v, if_pos rfl, m_noSlot_y hs, kI_v, if_pos rfl, d218, m_throwsIf0, kI_v, if_pos rfl, hin, kI_v, if_neg (by decide), d218, m_throwsIf0, kI_v, if_pos rfl, d218, m_propIn' (w := zA S 219) (by exact hx19) hC.1.1, kI_v, ep, if_neg (fun h => (q_m1 (by omega)).mp h), d218, m_looksAt (by omega), kV_v, if_neg (by decide), d218]
              exact (congrArg (fun r => kI r (fun x7 ω n => some (.inl (some (.int x7), ω, n)))) e).trans rfl
      · refine fin_W fun n _ => ⟨2, S, ω, ?_, fun n2 => ⟨0, uF (uF S 218 0 0) 218 0 2, n2, ?_, rfl, fun h => absurd h (by decide), hC.thr.thr, hI.thr.thr⟩⟩
        · show W_fright Θ (gb Θ) (nI a) (nI s) t b (gb Θ + 234) (laz Θ S ω) n = _
          unfold W_fright F_X10_fright J_X10_fright_20
          rw [c10w, c10, x_needOne_y hC ha, kV_v, c10, x_needSlot_y hs, kV_v]
          rcases q_out (by decide) ht with q | ⟨q1, q2⟩
          · rw [if_pos q]; exact wrI_x2 ia_ne
          · rw [if_neg q1, if_neg]
            · exact wrI_x2 ia_ne
            · rw [Int32.le_iff_toInt_le, nI_toInt (by omega)] at q2
              rw [Int32.le_iff_toInt_le, show (99 : Int32).toInt = 99 by decide]
              omega
        · show F_X11_fright Θ (gb Θ + 218) (nI a) (nI s) t b (laz Θ S ω) n2 = _
          unfold F_X11_fright J_X11_fright_26 J_X11_fright_49 J_X11_fright_56
          rw [b218_0, d218, m_noOne_y (by exact hO.1) hO.2.1 ha, kI_v, if_pos rfl, m_noSlot_y hs, kI_v, if_pos rfl, d218, m_throwsIf0, kI_v, if_pos rfl, in_n (N := 100) (by decide) (by decide) ht, kI_v, if_pos rfl, d218, m_throwsIf1, kI_v, if_neg (by decide)]
    · refine fin_W fun n _ => ⟨1, S, ω, ?_, fun n2 => ⟨0, uF (uF S 218 0 0) 218 0 1, n2, ?_, rfl, fun h => absurd h (by decide), hC.thr.thr, hI.thr.thr⟩⟩
      · show W_fright Θ (gb Θ) (nI a) u t b (gb Θ + 234) (laz Θ S ω) n = _
        unfold W_fright F_X10_fright
        rw [c10w, c10, x_needOne_y hC ha, kV_v, c10, x_needSlot_n hu, kV_x, wrI_x1]
      · show F_X11_fright Θ (gb Θ + 218) (nI a) u t b (laz Θ S ω) n2 = _
        unfold F_X11_fright J_X11_fright_21 J_X11_fright_26 J_X11_fright_56
        rw [b218_0, d218, m_noOne_y (by exact hO.1) hO.2.1 ha, kI_v, if_pos rfl, m_noSlot_n hu, kI_v, if_neg (by decide), d218, m_throwsIf1, kI_v, if_neg (by decide)]
  · refine one_n hC hI hv (fun n => ?_) (fun n => ?_)
    · show W_fright Θ (gb Θ) v u t b (gb Θ + 234) (laz Θ S ω) n = _
      unfold W_fright F_X10_fright
      rw [c10w, c10, x_needOne_n hC hv, kV_x, wrI_x1]
    · show F_X11_fright Θ (gb Θ + 218) v u t b (laz Θ S ω) n = _
      unfold F_X11_fright J_X11_fright_21 J_X11_fright_26 J_X11_fright_56
      rw [b218_0, d218, m_noOne_n (by exact hO.1) hO.2.1 hv, kI_v, if_neg (by decide), d218, m_throwsIf1, kI_v, if_neg (by decide)]
