/-! promise 30: car -/
theorem XC.kp {S S' : PZ} (h : XC S S') : Kp S S' := by
  obtain ⟨h1, h2, h3, h4⟩ := h
  refine ⟨fun k j q => h1 k j ?_, fun k q => ?_, fun k j _ _ => h3 k j⟩
  · rintro ⟨rfl, e⟩; simp [kpF] at q; omega
  · refine h2 k ?_ ?_ ?_ ?_ <;> (intro e; subst e; simp [kpA] at q)
theorem XC.idle {Θ : GP} {S S' : PZ} (h : XC S S') (hI : Idle Θ S) : Idle Θ S' := by
  obtain ⟨h1, h2, h3, h4⟩ := h
  obtain ⟨i1, i2, i3, i4⟩ := hI
  exact ⟨by rw [h3, h3]; exact i1, by rw [h2 216 (by omega) (by omega) (by omega) (by omega), h2 217 (by omega) (by omega) (by omega) (by omega), h2 200 (by omega) (by omega) (by omega) (by omega)]; exact i2, by rw [h1 218 23 (by omega)]; exact i3, by rw [h1 218 24 (by omega)]; exact i4⟩
theorem CX.otherL {Θ : GP} {S S' : PZ} {ω : OW} {R Q : Nat} {c : RPar} (hR : isR R) (hQ : isR Q) (hne : R ≠ Q) {q : Int32 × Int32} (h : CX Θ S ω Q c q) (x : XL R S S') : CX Θ S' ω Q c q := by
  obtain ⟨⟨r1, r2, r3, r4, r5, r6, r7, r8, r9⟩, h8, h9, h12, h13⟩ := h
  have hk : ∀ j, zF S' Q j = zF S Q j := fun j => x.1 Q j (fun y => hne y.symm)
  have hb : ∀ k, ¬ (R < k ∧ k < R + 6) → zA S' k = zA S k := x.2.1
  have hRQ : (R = 202 ∧ Q = 208) ∨ (R = 208 ∧ Q = 202) := by
    rcases hR with rfl | rfl <;> rcases hQ with rfl | rfl
    · exact absurd rfl hne
    · exact Or.inl ⟨rfl, rfl⟩
    · exact Or.inr ⟨rfl, rfl⟩
    · exact absurd rfl hne
  refine ⟨⟨r1, by rw [x.2.2.1]; exact r2, by rw [x.1 14 3 (by omega)]; exact r3, fun p hp => ?_, fun s hs => ?_, by rw [hk]; exact r6, by rw [hk]; exact r7, by rw [hk]; exact r8, fun p hp => by rw [hk]; exact r9 p hp⟩, by rw [hk]; exact h8, by rw [hk]; exact h9, by rw [hk]; exact h12, by rw [hk]; exact h13⟩
  · rw [hb 15 (by omega), hb 16 (by omega), hb (Q + 2) (by omega)]; exact r4 p hp
  · rw [hb (Q + 1) (by omega)]; exact r5 s hs
theorem KC.xl {Θ : GP} {S S' S'' : PZ} {R : Nat} (hR : isR R) (h : KC Θ S S') (x : XL R S' S'') : KC Θ S S'' := ⟨h.1.trans (x.kp hR), fun i => x.idle hR (h.2.1 i), fun j => (x.1 218 j (by rcases hR with rfl | rfl <;> omega)).trans (h.2.2 j)⟩
theorem pc28 (Θ : GP) : PC_28 Θ (gb Θ) (gb Θ + 218) (gb Θ + 234) (Inv Θ) := by
  intro v xs i hI
  obtain ⟨S, ω, rfl, hC, hI⟩ := hI
  have hP := hC.O
  have r1 : isR 202 := Or.inl rfl
  have r2 : isR 208 := Or.inr rfl
  obtain ⟨lw, hL⟩ := hC.lw
  show stW Θ _ _ (fun ω n => W_car Θ (gb Θ) (xs (i + 1)) (xs (i + 2)) (gb Θ + 234) ω n) (fun ω n => F_X11_car Θ (gb Θ + 218) (xs (i + 1)) (xs (i + 2)) ω n) _ _
  generalize xs (i + 1) = v
  generalize xs (i + 2) = u
  by_cases hv : ∃ s, s < cO' (zA S 219) ∧ v = nI s
  · obtain ⟨a, ha, rfl⟩ := hv
    by_cases hu : ∃ s, s < cO' (zA S 219) ∧ u = nI s
    · obtain ⟨b, hb, rfl⟩ := hu
      by_cases hab : nI a = nI b
      · refine fin_W fun n _ => ⟨2, S, ω, ?_, fun n2 => ⟨0, uF (uF S 218 0 0) 218 0 2, n2, ?_, rfl, fun h => absurd h (by decide), hC.thr.thr, hI.thr.thr⟩⟩
        · show W_car Θ (gb Θ) (nI a) (nI b) (gb Θ + 234) (laz Θ S ω) n = _
          unfold W_car F_X10_car
          rw [c10w, c10, x_needOne_y hC ha, kV_v, c10, x_needOne_y hC hb, kV_v, if_pos hab, wrI_x2 (by decide)]
        · show F_X11_car Θ (gb Θ + 218) (nI a) (nI b) (laz Θ S ω) n2 = _
          unfold F_X11_car J_X11_car_27 J_X11_car_45 J_X11_car_52
          rw [b218_0, d218, m_noOne_y (by exact hP.1) hP.2.1 ha, kI_v, if_pos rfl, d218, m_noOne_y (by exact hP.1) hP.2.1 hb, kI_v, if_pos rfl, d218, m_throwsIf0, kI_v, if_pos rfl, if_pos hab, d218, m_throwsIf1, kI_v, if_neg (by decide)]
      · refine fin_W fun n _ => ?_
        obtain ⟨rx1, xl1⟩ := x_ready r1 hC ha hL false false rfl
        obtain ⟨S2, e2, xr2, s8, s9, _, s12, s13, _⟩ := x_start (Θ := Θ) (ω := ω) (n := n) (S := (uF (uF (uF (uF (uA (uA S (202 + 1) (va_cpy (zA S 19) (zA S (202 + 1)) 0 0 10)) (202 + 2) (va_cpy (zA S 17) (zA S (202 + 2)) 0 0 8)) 202 6 (-1)) 202 3 (zA (uF (uA (uA S (202 + 1) (va_cpy (zA S 19) (zA S (202 + 1)) 0 0 10)) (202 + 2) (va_cpy (zA S 17) (zA S (202 + 2)) 0 0 8)) 202 6 (-1)) 20 a)) 202 4 (zA (uF (uA (uA S (202 + 1) (va_cpy (zA S 19) (zA S (202 + 1)) 0 0 10)) (202 + 2) (va_cpy (zA S 17) (zA S (202 + 2)) 0 0 8)) 202 6 (-1)) 21 a)) 202 5 (zA (uF (uA (uA S (202 + 1) (va_cpy (zA S 19) (zA S (202 + 1)) 0 0 10)) (202 + 2) (va_cpy (zA S 17) (zA S (202 + 2)) 0 0 8)) 202 6 (-1)) 22 a))) r1
        have c1 : CX Θ S2 ω 202 (cPar (zA S 219) lw a false false) (-1, 0) := ⟨rx1.xr r1 xr2, s8, s9, s12, s13⟩
        have xx : XL 202 S S2 := xl1.trans xr2.xl
        have h9 : zA S2 219 = zA S 219 := xx.2.1 219 (by omega)
        have hC2 : Core Θ S2 ω := hC.kp (xx.kp r1)
        obtain ⟨rx3, xl3⟩ := x_ready r2 hC2 (a := b) (by rw [h9]; exact hb) (lw := lw) (by rw [h9, xx.2.2.1]; exact hL) false false rfl
        obtain ⟨S4, e4, xr4, t8, t9, _, t12, t13, _⟩ := x_start (Θ := Θ) (ω := ω) (n := n) (S := (uF (uF (uF (uF (uA (uA S2 (208 + 1) (va_cpy (zA S2 19) (zA S2 (208 + 1)) 0 0 10)) (208 + 2) (va_cpy (zA S2 17) (zA S2 (208 + 2)) 0 0 8)) 208 6 (-1)) 208 3 (zA (uF (uA (uA S2 (208 + 1) (va_cpy (zA S2 19) (zA S2 (208 + 1)) 0 0 10)) (208 + 2) (va_cpy (zA S2 17) (zA S2 (208 + 2)) 0 0 8)) 208 6 (-1)) 20 b)) 208 4 (zA (uF (uA (uA S2 (208 + 1) (va_cpy (zA S2 19) (zA S2 (208 + 1)) 0 0 10)) (208 + 2) (va_cpy (zA S2 17) (zA S2 (208 + 2)) 0 0 8)) 208 6 (-1)) 21 b)) 208 5 (zA (uF (uA (uA S2 (208 + 1) (va_cpy (zA S2 19) (zA S2 (208 + 1)) 0 0 10)) (208 + 2) (va_cpy (zA S2 17) (zA S2 (208 + 2)) 0 0 8)) 208 6 (-1)) 22 b))) r2
        have c2 : CX Θ S4 ω 208 (cPar (zA S 219) lw b false false) (-1, 0) := by
          have : CX Θ S4 ω 208 (cPar (zA S2 219) lw b false false) (-1, 0) := ⟨rx3.xr r2 xr4, t8, t9, t12, t13⟩
          rw [h9] at this
          exact this
        have c3 : CX Θ S4 ω 202 (cPar (zA S 219) lw a false false) (-1, 0) := c1.otherL r2 r1 (by decide) (xl3.trans xr4.xl)
        have kc : KC Θ S S4 := ((KC.rf Θ S).xl r1 xx).xl r2 (xl3.trans xr4.xl)
        obtain ⟨S5, e5, k5⟩ := x_car_L (Θ := Θ) (S0 := S) (ω := ω) (n := n) (c := cPar (zA S 219) lw a false false) (d := cPar (zA S 219) lw b false false) rfl rfl rfl rfl (e := zA S 219 6) hC.1.1.2.2.2.2.2.1 hC.1.2.1.1.2.2.2.2.1 10 0 5000 ((-1, 0), (-1, 0)) S4 (by omega) (by omega) kc c3 c2 ⟨0, by omega, rfl⟩ ⟨0, by omega, rfl⟩
        have e5 : L_X10_car_72 Θ 5000 (gb Θ) 0 (laz Θ S4 ω) n = _ := e5
        have h95 : zA S5 219 = zA S 219 := k5.1.2.1 219 rfl
        generalize hr : csR (csL (cPar (zA S 219) lw a false false) (cPar (zA S 219) lw b false false) (zA S 219 6) 10 0 ((-1, 0), (-1, 0))) = r at e5
        refine ⟨0, uL S5 234 r.toInt64, ω, ?_, fun n2 => ?_⟩
        · show W_car Θ (gb Θ) (nI a) (nI b) (gb Θ + 234) (laz Θ S ω) n = _
          unfold W_car F_X10_car
          rw [c10w, c10, x_needOne_y hC ha, kV_v, c10, x_needOne_y hC hb, kV_v, if_neg hab, r10_8, d202, x_lay r1, kV_v, r10_8, d202, x_board r1 (by omega), kV_v, r10_8, d202, e2, kV_v, r10_9, d208, x_lay r2, kV_v, r10_9, d208, x_board r2 (by omega), kV_v, r10_9, d208, e4, kV_v, e5, wrI_v]
        · obtain ⟨S6, e6, x6⟩ := m_car_L (Θ := Θ) (S0 := uF (uF (uF (uL S5 234 r.toInt64) 218 0 0) 218 31 0) 218 32 0) (ω := ω) (n := n2) (w := zA S 219) (lw := lw) (a := a) (b := b) hC.1.1 hL.2 (by omega) (by omega) 10 0 5000 ((-1, 0), (-1, 0)) (uF (uF (uF (uL S5 234 r.toInt64) 218 0 0) 218 31 0) 218 32 0) (by omega) (by omega) (XC.rf _) h95 rfl rfl ⟨0, by omega, rfl⟩ ⟨0, by omega, rfl⟩
          have e6 : L_X11_car_69 Θ 5000 (gb Θ + 218) (nI a) (nI b) 0 0 (laz Θ (uF (uF (uF (uL S5 234 r.toInt64) 218 0 0) 218 31 0) 218 32 0) ω) n2 = _ := e6
          rw [hr] at e6
          have hC5 : Core Θ (uF (uF (uF (uL S5 234 r.toInt64) 218 0 0) 218 31 0) 218 32 0) ω := (((hC.kp k5.1).nL (k := 234) (v := r.toInt64)).thr (v := 0)).kp (((KK.rf _).nF rfl).nF rfl)
          have hI5 : Idle Θ (uF (uF (uF (uL S5 234 r.toInt64) 218 0 0) 218 31 0) 218 32 0) := ((((k5.2.1 hI).nL (k := 234) (v := r.toInt64)).thr (v := 0)).nF (by omega)).nF (by omega)
          refine ⟨r, S6, n2, ?_, (x6.1 218 0 (by omega)).trans rfl, fun _ => (x6.2.2.2 234).trans rfl, hC5.kp x6.kp, x6.idle hI5⟩
          show F_X11_car Θ (gb Θ + 218) (nI a) (nI b) (laz Θ (uL S5 234 r.toInt64) ω) n2 = _
          unfold F_X11_car J_X11_car_27 J_X11_car_45
          rw [b218_0, d218, m_noOne_y (P := cO' (zA S 219)) (by rw [← hP.1]; exact congrFun h95 1) hP.2.1 ha, kI_v, if_pos rfl, d218, m_noOne_y (P := cO' (zA S 219)) (by rw [← hP.1]; exact congrFun h95 1) hP.2.1 hb, kI_v, if_pos rfl, d218, m_throwsIf0, kI_v, if_pos rfl, if_neg hab, d218, m_throwsIf0, kI_v, if_pos rfl, b218_31, b218_32, e6]
    · refine fin_W fun n _ => ⟨1, S, ω, ?_, fun n2 => ⟨0, uF (uF S 218 0 0) 218 0 1, n2, ?_, rfl, fun h => absurd h (by decide), hC.thr.thr, hI.thr.thr⟩⟩
      · show W_car Θ (gb Θ) (nI a) u (gb Θ + 234) (laz Θ S ω) n = _
        unfold W_car F_X10_car
        rw [c10w, c10, x_needOne_y hC ha, kV_v, c10, x_needOne_n hC hu, kV_x, wrI_x1]
      · show F_X11_car Θ (gb Θ + 218) (nI a) u (laz Θ S ω) n2 = _
        unfold F_X11_car J_X11_car_22 J_X11_car_27 J_X11_car_52
        rw [b218_0, d218, m_noOne_y (by exact hP.1) hP.2.1 ha, kI_v, if_pos rfl, d218, m_noOne_n (by exact hP.1) hP.2.1 hu, kI_v, if_neg (by decide), d218, m_throwsIf1, kI_v, if_neg (by decide)]
  · refine one_n hC hI hv (fun n => ?_) (fun n => ?_)
    · show W_car Θ (gb Θ) v u (gb Θ + 234) (laz Θ S ω) n = _
      unfold W_car F_X10_car
      rw [c10w, c10, x_needOne_n hC hv, kV_x, wrI_x1]
    · show F_X11_car Θ (gb Θ + 218) v u (laz Θ S ω) n = _
      unfold F_X11_car J_X11_car_22 J_X11_car_27 J_X11_car_52
      rw [b218_0, d218, m_noOne_n (by exact hP.1) hP.2.1 hv, kI_v, if_neg (by decide), d218, m_throwsIf1, kI_v, if_neg (by decide)]
