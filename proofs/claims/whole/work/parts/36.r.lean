theorem XT.law {S S' : PZ} (h : XT S S') (w : Nat → Int32) : XP (uA S 219 w) (uA S' 219 w) := ⟨h.1, fun k a b c d => by
  by_cases z : k = 219
  · subst z; rw [zA_eq, zA_eq]
  · rw [zA_ne _ _ z, zA_ne _ _ z, h.2.1 k z a b c d], h.2.2⟩
theorem pc9 (Θ : GP) : PC_9 Θ (gb Θ) (gb Θ + 218) (gb Θ + 234) (Inv Θ) := by
  intro v xs i hI
  obtain ⟨S, ω, rfl, hC, hI⟩ := hI
  have hO := hC.O
  have hP := hC.P
  have hR : isR 202 := Or.inl rfl
  obtain ⟨lw, hL⟩ := hC.lw
  have hW := hC.1.1
  show stW Θ _ _ (fun ω n => W_send Θ (gb Θ) (xs (i + 1)) (gb Θ + 234) ω n) (fun ω n => F_X11_send Θ (gb Θ + 218) (xs (i + 1)) ω n) _ _
  generalize xs (i + 1) = v
  by_cases hv : ∃ s, s < cO' (zA S 219) ∧ v = nI s
  · obtain ⟨a, ha, rfl⟩ := hv
    have ha6 : a < 6 := by omega
    by_cases hs : zA S 219 (4 * a + 44) = 0
    · refine fin_W fun n _ => ?_
      obtain ⟨S1, A, e1, r⟩ := x_remember (n := n) hC
      have c1 : CR S1 14 (zA S 219) := r.2.2.2.1
      have hL1 : LawR Θ ω (zR S1 14 17) (zA S 219) lw := by rw [r.2.2.2.2.2.2.2 14 17 (by omega)]; exact hL
      have hOk := cPar_ok hW hL.2 ha6 true false
      obtain ⟨xl, ld⟩ := x_laidN hW c1 hL1
      obtain ⟨S2, e2, x2, r2⟩ := x_boardN (n := n) hW c1 xl ld ha hOk
      have e6 : zF S2 14 6 = zA S 219 8 := by rw [x2.1 14 6 (by omega)]; exact c1.1.2.2.2.2.2.2
      have r3 : RX Θ (uF S2 202 7 (zA S 219 8)) ω 202 (cPar (zA S 219) lw a true false) := r2.xr hR ((XR.rf 202 S2).nF (by omega))
      obtain ⟨S3, e3, o⟩ := x_go (Θ := Θ) (n := n) hR r3
      have e3 : F_X6_go Θ (gb Θ + 202) 1 0 (laz Θ (uF S2 202 7 (zA S 219 8)) ω) n = some (.inl (none, laz Θ S3 ω, n)) := e3
      rw [zF_eq] at o
      obtain ⟨Q, hQ⟩ : ∃ Q, Q = rst (cPar (zA S 219) lw a true false) (-1, 0, zA S 219 8) 10 := ⟨_, rfl⟩
      obtain ⟨o1, o8, o9, o7, ob, _⟩ := o
      rw [← hQ] at o8 o9 o7
      have x3 : XL 202 S1 S3 := (x2.nF).trans o1.xl
      obtain ⟨S4, e4, x4, f4, _, p4, k4⟩ := x_wearC (Θ := Θ) (S := S3) (ω := ω) (n := n) ha6 hW hL.2 (r3.xr hR o1) (zA S 219 8) Q.2.2 ob
      have x4 := x3.trans x4
      have q8 : zF S4 202 8 = Q.1 := (f4 8 (by omega)).trans o8
      have q9 : zF S4 202 9 = Q.2.1 := (f4 9 (by omega)).trans o9
      have q7 : zF S4 202 7 = Q.2.2 := (f4 7 (by omega)).trans o7
      have k4 : zF S4 202 5 = zA S 219 (4 * a + 43) ||| cmB (cPar (zA S 219) lw a true false) (-1, 0, zA S 219 8) ten := k4.trans (wW_kn _ _ a _)
      have c4 : CR S4 14 (zA S 219) := c1.congr (fun k j h1 h2 => x4.1 k j (by omega)) (fun k h1 h2 => x4.2.1 k (by omega))
      obtain ⟨C, hCc⟩ : ∃ C, C = cPar (zA S 219) lw a true false := ⟨_, rfl⟩
      have hC1 : C.1 = zA S 219 := by rw [hCc]; rfl
      rw [← hCc] at p4 k4 hQ hOk
      obtain ⟨W, hWd⟩ : ∃ W, W = wW C (-1, 0, zA S 219 8) a Q.2.2 := ⟨_, rfl⟩
      have w5 : CR (uA (uF (uA S4 17 (va_cpy (zA S4 204) (zA S4 17) 0 0 8)) 14 6 Q.2.2) 22 (upd (zA S4 22) a (zF S4 202 5))) 14 W := by
        have h5 : CR (uA S4 17 (va_cpy (zA S4 204) (zA S4 17) 0 0 8)) 14 (wkS C (-1, 0, zA S 219 8) ten) := by
          refine c4.wornAll hP.2.1 (fun k hk => ?_) (fun p hp => ?_)
          · rw [← hC1] at hk ⊢
            by_cases y : 4 * cP C.1 + 11 ≤ k
            · exact wkS_hi hOk _ y ten ten_le
            · exact wkS_ne4 _ _ (by omega) ten
          · rw [cpy_at, if_pos (by omega), p4 p hp, wW_p _ _ _ (by omega)]
        rw [hWd, k4]
        unfold wW
        rw [hC1]
        exact (h5.seed Q.2.2).know ha6 (by
          have e : cP (upd (wkS C (-1, 0, zA S 219 8) ten) 8 Q.2.2) = cP (zA S 219) := by
            have e2 := wkS_cP C (-1, 0, zA S 219 8) ten
            rw [hC1] at e2
            rw [← e2]
            unfold cP; rw [upd_ne _ _ (by omega)]
          rw [e]; exact hP.2.1) _
      have wW' : WB W := by rw [hWd]; exact wW_wb hOk _ ha6 _
      have eP : cP W = cP (zA S 219) := by rw [hWd, wW_cP, hC1]
      obtain ⟨st, hst⟩ : ∃ st : Int32, st = if Q.1 = -1 then 2 else 1 := ⟨_, rfl⟩
      have st3 : Rg st 3 := by
        rw [hst]; split
        · exact ⟨2, by omega, rfl⟩
        · exact ⟨1, by omega, rfl⟩
      have w6 := w5.stat ha6 (by rw [eP]; exact hP.2.1) st
      have wb6 : WB (upd W (4 * a + 44) st) := wW'.put (by omega) (by omega) (by omega) (by omega) (by omega) (fun q hq => ⟨by omega, by omega, by omega, by omega⟩) (fun a ha => ⟨by omega, by omega, by omega, fun _ => st3⟩)
      have hday : zF S4 14 5 = zA S 219 4 := c4.1.2.2.2.2.2.1
      have hW4 : upd W (4 * a + 44) st 4 = zA S 219 4 := by rw [upd_ne _ _ (by omega), hWd, wW_ne _ _ _ _ (by omega) (by omega), hC1]
      obtain ⟨S5, e5, c5, g1, g2, g3, g4⟩ := x_logAdd (Θ := Θ) (ω := ω) (n := n) wb6 w6 (zA S 219 4) (nI a) (if Q.1 = -1 then 10 else Q.1) Q.2.1
      have kn5 : Kn S1 S5 := by
        refine ⟨fun k j h => ?_, fun k h => ?_, fun k j h1 h2 => ?_⟩
        · have hk : k ≠ 24 ∧ k ≠ 14 ∧ k ≠ 202 := by
            refine ⟨?_, ?_, ?_⟩ <;> (rintro rfl; revert h; simp [knF])
          rw [g1 k j hk.1, zF_uA, zF_uA, zF_ne _ _ (fun y => hk.2.1 y.1), zF_uA]
          exact x4.1 k j hk.2.2
        · have hk : k ≠ 25 ∧ k ≠ 23 ∧ k ≠ 22 ∧ k ≠ 17 ∧ ¬ (202 < k ∧ k < 202 + 6) := by
            refine ⟨?_, ?_, ?_, ?_, ?_⟩
            · rintro rfl; revert h; simp [knA]
            · rintro rfl; revert h; simp [knA]
            · rintro rfl; revert h; simp [knA]
            · rintro rfl; revert h; simp [knA]
            · rintro ⟨h1, h2⟩; revert h; simp [knA]; omega
          rw [g2 k hk.1, zA_ne _ _ hk.2.1, zA_ne _ _ hk.2.2.1, zA_uF, zA_ne _ _ hk.2.2.2.1]
          exact x4.2.1 k hk.2.2.2.2
        · rw [g3 k j]; exact x4.2.2.1 k j
      have h9 : zA S5 219 = zA S1 219 := by
        rw [g2 219 (by omega), zA_ne _ _ (by omega), zA_ne _ _ (by omega), zA_uF, zA_ne _ _ (by omega)]
        exact x4.2.1 219 (by omega)
      have h9' : zA S5 219 = zA S 219 := h9.trans r.2.2.2.2.1
      have hz5 : ∀ k j, k ≠ 24 → k ≠ 14 → k ≠ 202 → zF S5 k j = zF S1 k j := fun k j a1 a2 a3 => by
        rw [g1 k j a1, zF_uA, zF_uA, zF_ne _ _ (fun y => a2 y.1), zF_uA]
        exact x4.1 k j a3
      have i5 : Idle Θ S5 := by
        have i1 := r.idle hI
        obtain ⟨j1, j2, j3, j4⟩ := i1
        refine ⟨?_, ?_, ?_, ?_⟩
        · rw [g3, g3]
          show ((zR S4 214 4 = _ ∧ zR S4 214 5 = _) ∨ (zR S4 214 4 = _ ∧ zR S4 214 5 = _))
          rw [x4.2.2.1, x4.2.2.1]; exact j1
        · intro t ht
          rw [g2 216 (by omega), g2 217 (by omega), g2 200 (by omega)]
          show zA S4 216 t = 0 ∧ zA S4 217 t = 0 ∧ zA S4 200 0 = 0
          rw [x4.2.1 216 (by omega), x4.2.1 217 (by omega), x4.2.1 200 (by omega)]; exact j2 t ht
        · rw [hz5 218 23 (by omega) (by omega) (by omega)]; exact j3
        · rw [hz5 218 24 (by omega) (by omega) (by omega)]; exact j4
      have q8' : zF S5 202 8 = Q.1 := by
        rw [g1 202 8 (by omega), zF_uA, zF_uA, zF_ne _ _ (by omega), zF_uA, q8]
      refine ⟨0, uL S5 234 Q.1.toInt64, ω, ?_, fun n2 => ?_⟩
      · show W_send Θ (gb Θ) (nI a) (gb Θ + 234) (laz Θ S ω) n = _
        unfold W_send F_X10_send J_X10_send_140 J_X10_send_179 F_X6_byDraws
        rw [c10w, c10, x_needOne_y hC ha, kV_v, c10, x_needState_y hC ha hs, kV_v, r10_4, r10_0, d50, e1, kV_v, r10_8, d202, x_lay hR, kV_v, r10_8, d202, e2, kV_v, r10_8, r10_0, a14_6, e6, b202_7, r10_8, d202, d202, e3, kV_v, kV_v, r10_8, d202, e4, kV_v, r10_8, a202_2, r10_0, a14_9, z_cp0 (n := 8) rfl rfl (by decide) (by decide) (by decide), r10_0, r10_8, a202_7]
        rw [zF_uA, q7, b14_6, r10_0, a14_14, r10_8, a202_5, zF_ne _ _ (by omega), zF_uA, s_22 ha6, r10_0, a14_15, r10_8, a202_8, zF_uA, zF_ne _ _ (by omega), zF_uA, q8]
        have e22 : zA (uF (uA S4 17 (va_cpy (zA S4 204) (zA S4 17) 0 0 8)) 14 6 Q.2.2) 22 = zA S4 22 := by rw [zA_uF, zA_ne _ _ (by omega)]
        rw [e22]
        have t8 : ∀ g : Nat → Int32, zF (uA (uA (uF (uA S4 17 (va_cpy (zA S4 204) (zA S4 17) 0 0 8)) 14 6 Q.2.2) 22 (upd (zA S4 22) a (zF S4 202 5))) 23 g) 202 8 = Q.1 := fun g => by rw [zF_uA, zF_uA, zF_ne _ _ (by omega), zF_uA, q8]
        have t9 : ∀ g : Nat → Int32, zF (uA (uA (uF (uA S4 17 (va_cpy (zA S4 204) (zA S4 17) 0 0 8)) 14 6 Q.2.2) 22 (upd (zA S4 22) a (zF S4 202 5))) 23 g) 202 9 = Q.2.1 := fun g => by rw [zF_uA, zF_uA, zF_ne _ _ (by omega), zF_uA, q9]
        have t5 : ∀ g : Nat → Int32, zF (uA (uA (uF (uA S4 17 (va_cpy (zA S4 204) (zA S4 17) 0 0 8)) 14 6 Q.2.2) 22 (upd (zA S4 22) a (zF S4 202 5))) 23 g) 14 5 = zA S 219 4 := fun g => by rw [zF_uA, zF_uA, zF_ne _ _ (by omega), zF_uA, hday]
        by_cases y : Q.1 = -1
        · have hst' : st = 2 := by rw [hst, if_pos y]
          rw [if_pos y, s_23 ha6, r10_0, a14_16, r10_0, a14_5, t5, r10_8, a202_8, t8, if_pos y, r10_8, a202_9, t9, d24]
          rw [if_pos y, hst'] at e5
          rw [e5, kV_v, r10_8, a202_8, q8', wrI_v]
        · have hst' : st = 1 := by rw [hst, if_neg y]
          rw [if_neg y, s_23 ha6, r10_0, a14_16, r10_0, a14_5, t5, r10_8, a202_8, t8, if_neg y, r10_8, a202_8, t8, r10_8, a202_9, t9, d24]
          rw [if_neg y, hst'] at e5
          rw [e5, kV_v, r10_8, a202_8, q8', wrI_v]
      · let S6 := uF (uL S5 234 Q.1.toInt64) 218 0 0
        have i6 : Idle Θ S6 := (i5.nL).thr
        have h96 : zA (rmM S6 A) 219 = zA S 219 := h9'
        have h7' : zF S6 218 7 = nI A := by
          show zF S5 218 7 = _
          rw [hz5 218 7 (by omega) (by omega) (by omega)]; exact r.2.1
        obtain ⟨S7, S8, e7, e8, x7, m⟩ := m_lookD (Θ := Θ) (S := rmM S6 A) (ω := ω) (n := n2) (w := zA S 219) (lw := lw) (sd := zA S 219 8) (by rw [h96]; exact (w8_self _).symm) hW hL.2 ha6 ((i6.rm A).2.2.1) ((i6.rm A).2.2.2)
        obtain ⟨m1, m2, m3, m4, _, m6, m7⟩ := m
        rw [← hCc, ← hQ] at m2 m3 m4 e8
        rw [← hCc] at m6 m7
        have e9 := m_laysOn (Θ := Θ) (S := S8) (ω := ω) (n := n2) hOk (q := (-1, 0, zA S 219 8)) (sd := Q.2.2) m4 (by rw [ten_eq]; exact m6) m7 ha6
        rw [← hWd] at e9
        have x8 : XT (rmM S6 A) S8 := x7.trans m1.xt
        let WF := lgW (upd W (4 * a + 44) st) (zA S 219 4) (nI a) (if Q.1 = -1 then 10 else Q.1) Q.2.1
        have e10 := m_shift (Θ := Θ) (S := S8) (ω := ω) (n := n2) (a := a) (l2 := Q.1) (W := upd W (4 * a + 44) st) 236 239 5000 (by omega) (by omega) (by omega)
        rw [show shM (upd W (4 * a + 44) st) 239 = upd W (4 * a + 44) st from funext fun i => if_neg (by omega), m3, hW4] at e10
        have hcore : Core Θ (uA (rmM S6 A) 219 WF) ω := by
          refine Core.act r (kn5.nL.nF rfl) h9 (fun k q => ?_) (lgW_wb wb6 _ _ _ _) c5.thr
          have hk : k ≠ 7 := by omega
          show lgW (upd W (4 * a + 44) st) (zA S 219 4) (nI a) (if Q.1 = -1 then 10 else Q.1) Q.2.1 k = zA S 219 k
          rw [lgW_ne _ _ _ _ _ hk (by omega), upd_ne _ _ (by omega), hWd]
          rcases q with q | q
          · rw [wW_hi hOk _ _ _ (by omega) (by omega), hC1]
          · rw [wW_ne _ _ _ _ (by omega) (by omega), hC1]
        have x9 : XP (uA (rmM S6 A) 219 WF) (uA S8 219 WF) := x8.law WF
        refine ⟨Q.1, uA S8 219 WF, n2, ?_, ?_, fun _ => ?_, hcore.kp x9.kp, x9.idle ((i6.rm A).nA (by decide))⟩
        · show F_X11_send Θ (gb Θ + 218) (nI a) (laz Θ (uL S5 234 Q.1.toInt64) ω) n2 = _
          unfold F_X11_send J_X11_send_32 F_X11_oneAt
          rw [b218_0, d218, m_noOne_y (P := cO' (zA S 219)) (by rw [← hO.1]; exact congrFun h9' 1) hO.2.1 ha, kI_v, d218, m_throwsIf0, kI_v, if_pos rfl, d218, m_waits_y ha6 (by exact (congrFun h9' _).trans hs), kI_v]
          rw [if_neg (by decide), d218, m_throwsIf0, kI_v, if_pos rfl, d218, m_remembers (A := A) (by exact h7') r.1, kV_v, d218]
          have e7 : F_X11_looksAt Θ (gb Θ + 218) (nI a) (laz Θ (rmM (uF (uL S5 234 Q.1.toInt64) 218 0 0) A) ω) n2 = _ := e7
          rw [e7, kV_v, d218, e8, kI_v, d218, e9, kV_v, a218_1, kI_v, ixa3]
          unfold J_X11_send_81
          by_cases y : Q.1 = -1
          · have hst' : st = 2 := by rw [hst, if_pos y]
            rw [if_pos y, s_219 (by omega), uA_uA, zA_eq, ← hst']
            exact e10
          · have hst' : st = 1 := by rw [hst, if_neg y]
            rw [if_neg y, s_219 (by omega), uA_uA, zA_eq, ← hst']
            exact e10
        · rw [zF_uA, x8.1 218 0 (by omega)]; rfl
        · rw [show zL (uA S8 219 WF) 234 = zL S8 234 from rfl, x8.2.2.2 234]; rfl
    · refine fin_W fun n _ => ⟨2, S, ω, ?_, fun n2 => ⟨0, uF (uF S 218 0 0) 218 0 2, n2, ?_, rfl, fun h => absurd h (by decide), hC.thr.thr, hI.thr.thr⟩⟩
      · show W_send Θ (gb Θ) (nI a) (gb Θ + 234) (laz Θ S ω) n = _
        unfold W_send F_X10_send
        rw [c10w, c10, x_needOne_y hC ha, kV_v, c10, x_needState_n hC ha hs, kV_x, wrI_x2 is_ne]
      · show F_X11_send Θ (gb Θ + 218) (nI a) (laz Θ S ω) n2 = _
        unfold F_X11_send J_X11_send_32 J_X11_send_39
        rw [b218_0, d218, m_noOne_y (by exact hO.1) hO.2.1 ha, kI_v, d218, m_throwsIf0, kI_v, if_pos rfl, d218, m_waits_n ha6 (by exact hs), kI_v]
        rw [if_pos rfl, d218, m_throwsIf1, kI_v, if_neg (by decide)]
  · refine fin_W fun n _ => ⟨1, S, ω, ?_, fun n2 => ⟨0, uF (uF S 218 0 0) 218 0 1, n2, ?_, rfl, fun h => absurd h (by decide), hC.thr.thr, hI.thr.thr⟩⟩
    · show W_send Θ (gb Θ) v (gb Θ + 234) (laz Θ S ω) n = _
      unfold W_send F_X10_send
      rw [c10w, c10, x_needOne_n hC hv, kV_x, wrI_x1]
    · show F_X11_send Θ (gb Θ + 218) v (laz Θ S ω) n2 = _
      unfold F_X11_send J_X11_send_39
      rw [b218_0, d218, m_noOne_n (by exact hO.1) hO.2.1 hv, kI_v, d218, m_throwsIf1, kI_v, if_neg (by decide)]
