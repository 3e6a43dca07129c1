/-! two in one car: steps -/
section CA
variable {Θ : GP} {S : PZ} {ω : OW} {n : Nat} {R : Nat} {w : Nat → Int32} {lw : LW} {a : Nat}
/-- who hears another: where the scream is, tense -/
def heS (nv e : Int32) (s : Nat) (q : Int32 × Int32) : Int32 × Int32 := if q.1 = -1 then (if q.2 + e ≤ nv then -1 else nI s, q.2 + e) else q
theorem x_hear (hR : isR R) {s : Nat} {e nv sc t : Int32} (h4 : zF S R 4 = nv) (h8 : zF S R 8 = sc) (h9 : zF S R 9 = t) : ∃ S', F_X6_hear Θ (gb Θ + R) (nI s) e (laz Θ S ω) n = some (.inl (none, laz Θ S' ω, n)) ∧ XR R S S' ∧ zF S' R 8 = (heS nv e s (sc, t)).1 ∧ zF S' R 9 = (heS nv e s (sc, t)).2 ∧ zF S' R 7 = zF S R 7 ∧ zF S' R 12 = zF S R 12 ∧ zF S' R 13 = zF S R 13 := by
  obtain ⟨k0, _⟩ := isR_kd hR
  unfold F_X6_hear J_X6_hear_34 heS
  rw [r6_8 k0, h8]
  by_cases z : sc = -1
  · rw [if_pos z, if_pos z, r6_9 k0, h9, w6_9 k0, r6_9 k0, zF_eq, r6_4 k0, zF_ne _ _ (by omega), h4]
    by_cases y : t + e ≤ nv
    · rw [if_pos y]
      refine ⟨uF S R 9 (t + e), rfl, (XR.rf R S).nF (by omega), ?_, zF_eq _ _ _ _, ?_, ?_, ?_⟩
      · rw [zF_ne _ _ (by omega), h8, z]; exact (if_pos y).symm
      · rw [zF_ne _ _ (by omega)]
      · rw [zF_ne _ _ (by omega)]
      · rw [zF_ne _ _ (by omega)]
    · rw [if_neg y, w6_8 k0]
      refine ⟨uF (uF S R 9 (t + e)) R 8 (nI s), rfl, ((XR.rf R S).nF (by omega)).nF (by omega), ?_, ?_, ?_, ?_, ?_⟩
      · rw [zF_eq]; exact (if_neg y).symm
      · rw [zF_ne _ _ (by omega), zF_eq]
      · rw [zF_ne _ _ (by omega), zF_ne _ _ (by omega)]
      · rw [zF_ne _ _ (by omega), zF_ne _ _ (by omega)]
      · rw [zF_ne _ _ (by omega), zF_ne _ _ (by omega)]
  · rw [if_neg z, if_neg z]
    exact ⟨S, rfl, XR.rf R S, h8, h9, rfl, rfl, rfl⟩
theorem x_screamsIn_n (hR : isR R) {s : Int32} (h8 : zF S R 8 ≠ -1) : F_X6_screamsIn Θ (gb Θ + R) s (laz Θ S ω) n = some (.inl (some (.int 0), laz Θ S ω, n)) := by
  obtain ⟨k0, _⟩ := isR_kd hR
  unfold F_X6_screamsIn
  rw [r6_8 k0, if_neg h8]
theorem m_screams (ha : a < 6) (t : Int32) : F_X11_screams Θ (gb Θ + 218) (nI a) t (laz Θ S ω) n = some (.inl (some (.int (if t ≤ zA S 219 (4 * a + 42) then 0 else 1)), laz Θ S ω, n)) := by
  unfold F_X11_screams J_X11_screams_15
  rw [d218, m_of1 ha, kI_v]
  split
  · rw [bz_0]
  · rw [bz_1]
/-- one's step -/
theorem m_carStep (hw : zA S 219 = w) (hW : WB w) (hM : LawM w lw) (ha : a < 6) {s : Nat} (hs : s < 10) {t : Int32} (ht : Rg t 10000) : ∃ S', F_X11_carStep Θ (gb Θ + 218) (nI a) (nI s) t (laz Θ S ω) n = some (.inl (some (.int (rte (cPar w lw a false false) s t 0)), laz Θ S' ω, n)) ∧ XP S S' := by
  subst hw
  have hO := cPar_ok hW hM ha false false
  have hP8 := hW.P8
  have xp0 : XP S (uF (uF (uF S 218 18 (zA S 219 (4 * a + 41))) 218 19 (zA S 219 (4 * a + 42))) 218 20 (zA S 219 (4 * a + 43))) := (((XP.rf S).nF (by omega)).nF (by omega)).nF (by omega)
  unfold F_X11_carStep J_X11_carStep_37
  rw [d218, m_looksAt ha, kV_v, d218, m_propIn' (w := zA S 219) (by exact rfl) hW, kI_v]
  by_cases z : pin (zA S 219) (nI s) = -1
  · rw [if_pos z, d218, m_calmer, kI_v]
    refine ⟨_, ?_, xp0⟩
    rw [show rte (cPar (zA S 219) lw a false false) s t 0 = cmx (t - zA S 219 5) from if_pos z]
    rfl
  · have hn : (cPar (zA S 219) lw a false false).2.2.1 s ≠ -1 := z
    obtain ⟨p1, p2, p3⟩ := hO.pr hs hn
    have p1 : rpr (cPar (zA S 219) lw a false false) s < cP (zA S 219) := p1
    have p2 : pin (zA S 219) (nI s) = nI (rpr (cPar (zA S 219) lw a false false) s) := p2
    have hF : FB (rfc (cPar (zA S 219) lw a false false) s t) := rfc_fb hO hs hn (ht.le (by omega))
    obtain ⟨v', e⟩ := m_frightsBy (Θ := Θ) (S := uF (uF (uF S 218 18 (zA S 219 (4 * a + 41))) 218 19 (zA S 219 (4 * a + 42))) 218 20 (zA S 219 (4 * a + 43))) (ω := ω) (n := n) (p := rpr (cPar (zA S 219) lw a false false) s) (t := t) (nv := zA S 219 (4 * a + 42)) (kn := zA S 219 (4 * a + 43)) (dd := zA S 219 (4 * a + 41)) (lw := lw) (by omega) rfl rfl rfl hM hF
    rw [if_neg z, p2, d218, e, kI_v]
    refine ⟨uA (uF (uF (uF (uF (uF S 218 18 (zA S 219 (4 * a + 41))) 218 19 (zA S 219 (4 * a + 42))) 218 20 (zA S 219 (4 * a + 43))) 218 21 (nI (rpr (cPar (zA S 219) lw a false false) s))) 218 22 t) 226 v', ?_, xp0.trans XP.law⟩
    have er : rte (cPar (zA S 219) lw a false false) s t 0 = t + (frS lw (rfc (cPar (zA S 219) lw a false false) s t) + 1) := if_neg z
    rw [er, ← Int32.add_assoc]
    rfl
end CA
