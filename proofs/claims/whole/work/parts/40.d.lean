/-! promise 29: ask, the call -/
def XA (S S' : PZ) : Prop := (∀ k j, ¬ (k = 218 ∧ ((18 ≤ j ∧ j ≤ 22) ∨ (28 ≤ j ∧ j ≤ 30))) → zF S' k j = zF S k j) ∧ (∀ k, k ≠ 226 → k ≠ 227 → k ≠ 228 → k ≠ 229 → k ≠ 233 → zA S' k = zA S k) ∧ (∀ k j, zR S' k j = zR S k j) ∧ (∀ k, zL S' k = zL S k)
theorem XA.rf (S : PZ) : XA S S := ⟨fun _ _ _ => rfl, fun _ _ _ _ _ _ => rfl, fun _ _ => rfl, fun _ => rfl⟩
theorem XA.xp {S S' S'' : PZ} (h : XA S S') (g : XP S' S'') : XA S S'' := ⟨fun k j q => (g.1 k j q).trans (h.1 k j q), fun k a b c d e => (g.2.1 k a b c d).trans (h.2.1 k a b c d e), fun k j => (g.2.2.1 k j).trans (h.2.2.1 k j), fun k => (g.2.2.2 k).trans (h.2.2.2 k)⟩
theorem XA.nA {S S' : PZ} (h : XA S S') {f : Nat → Int32} : XA S (uA S' 233 f) := ⟨h.1, fun k a b c d e => by rw [zA_ne _ _ e, h.2.1 k a b c d e], h.2.2.1, h.2.2.2⟩
theorem XA.kp {S S' : PZ} (h : XA S S') : Kp S S' := by
  obtain ⟨h1, h2, h3, h4⟩ := h
  refine ⟨fun k j q => h1 k j ?_, fun k q => ?_, fun k j _ _ => h3 k j⟩
  · rintro ⟨rfl, e⟩; simp [kpF] at q; omega
  · refine h2 k ?_ ?_ ?_ ?_ ?_ <;> (intro e; subst e; simp [kpA] at q)
theorem XA.idle {Θ : GP} {S S' : PZ} (h : XA S S') (hI : Idle Θ S) : Idle Θ S' := by
  obtain ⟨h1, h2, h3, h4⟩ := h
  obtain ⟨i1, i2, i3, i4⟩ := hI
  exact ⟨by rw [h3, h3]; exact i1, by rw [h2 216 (by omega) (by omega) (by omega) (by omega) (by omega), h2 217 (by omega) (by omega) (by omega) (by omega) (by omega), h2 200 (by omega) (by omega) (by omega) (by omega) (by omega)]; exact i2, by rw [h1 218 23 (by omega)]; exact i3, by rw [h1 218 24 (by omega)]; exact i4⟩
section AS
variable {Θ : GP} {S S0 : PZ} {ω : OW} {n : Nat} {w : Nat → Int32} {lw : LW}
theorem m_ask52_L {K : Nat → Int32 → Int32 → Int32 → OW → Nat → RO} {l1 l3 : Int32} {M : Nat} (hM : M < 64) {G : Nat → Int32} (hG : ∀ s, s < 10 → zA S 228 s = G s) : ∀ (m s f : Nat) (h : Nat → Int32), s + m = 10 → m < f → ∃ h', L_X11_ask_52 Θ K f (gb Θ + 218) l1 (nI M) l3 (nI s) (laz Θ (uA S 233 h) ω) n = K (gb Θ + 218) l1 (nI (M + 1)) (l3 + 1) (laz Θ (uA S 233 h') ω) n ∧ (∀ i, i < 10 * M → h' i = h i) ∧ ∀ t, t < 10 → h' (10 * M + t) = if t < s then h (10 * M + t) else G t := by
  intro m
  induction m with
  | zero =>
    intro s f h h1 h2
    obtain ⟨f, rfl⟩ : ∃ g, f = g + 1 := ⟨f - 1, by omega⟩
    refine ⟨h, ?_, fun _ _ => rfl, fun t ht => by rw [if_pos (by omega)]⟩
    unfold L_X11_ask_52 B_X11_ask_52 J_X11_ask_87
    rw [if_pos (show (10 : Int32) ≤ nI s from nI_le (a := 10) (by omega) (by omega)), nI_1]
  | succ m ih =>
    intro s f h h1 h2
    obtain ⟨f, rfl⟩ : ∃ g, f = g + 1 := ⟨f - 1, by omega⟩
    obtain ⟨h', e, q1, q2⟩ := ih (s + 1) f (upd h (10 * M + s) (G s)) (by omega) (by omega)
    refine ⟨h', ?_, fun i hi => by rw [q1 i hi, upd_ne _ _ (by omega)], fun t ht => ?_⟩
    · rw [show L_X11_ask_52 Θ K (f + 1) (gb Θ + 218) l1 (nI M) l3 (nI s) (laz Θ (uA S 233 h) ω) n = B_X11_ask_52 Θ K (L_X11_ask_52 Θ K f) (gb Θ + 218) l1 (nI M) l3 (nI s) (laz Θ (uA S 233 h) ω) n from rfl]
      unfold B_X11_ask_52
      rw [if_neg (show ¬ (10 : Int32) ≤ nI s from nI_ge (b := 10) (by omega) (by omega)), a218_37, a218_26, l_228 (by omega), zA_ne _ _ (show 228 ≠ 233 by decide), hG s (by omega), show (10 : Int32) * nI M + nI s = nI (10 * M + s) by rw [show (10 : Int32) * nI M = nI (10 * M) from nI_mul 10 M, nI_add], s_233 (by omega), uA_uA, zA_eq, nI_1, e]
    · rw [q2 t ht]
      by_cases z : t = s
      · subst z; rw [if_pos (by omega), if_neg (by omega), upd_same]
      · by_cases y : t < s
        · rw [if_pos (by omega), if_pos y, upd_ne _ _ (by omega)]
        · rw [if_neg (by omega), if_neg y]
theorem FT.n33 {len : Nat} {b : Nat → Nat} (h : FT S w len b) {f : Nat → Int32} : FT (uA S 233 f) w len b := by
  obtain ⟨h1, h2, h3, h4, h5⟩ := h
  exact ⟨h1, h2, h3, h4, h5⟩
theorem m_ask31_L (hW : WB w) (hM : LawM w lw) {nv len : Nat} (hn : nv ≤ 60) {b : Nat → Nat} (h40 : len ≤ 40) (hev : len % 2 = 0) (ht : tdP len b 0) : ∀ (k p f : Nat) (S : PZ), p + k = 64 → k < f → XA S0 S → FT S w len b → (∀ u, u < p → ftB w lw nv len b u = true → ∀ s, s < 10 → zA S 233 (10 * cfN (ftB w lw nv len b) u + s) = fgT w lw nv u s) → ∃ S', L_X11_ask_31 Θ f (gb Θ + 218) (nI nv) (nI (cfN (ftB w lw nv len b) p)) (nI p) (laz Θ S ω) n = L_X11_ask_103 Θ 5000 (gb Θ + 218) (nI (cfN (ftB w lw nv len b) 64)) (-1) 100000000 0 (laz Θ S' ω) n ∧ XA S0 S' ∧ zA S' 219 = w ∧ ∀ u, u < 64 → ftB w lw nv len b u = true → ∀ s, s < 10 → zA S' 233 (10 * cfN (ftB w lw nv len b) u + s) = fgT w lw nv u s := by
  intro k
  induction k with
  | zero =>
    intro p f S h1 h2 xa hf hA
    obtain ⟨f, rfl⟩ : ∃ g, f = g + 1 := ⟨f - 1, by omega⟩
    have hp : p = 64 := by omega
    refine ⟨S, ?_, xa, hf.1, fun u hu => hA u (by omega)⟩
    unfold L_X11_ask_31 B_X11_ask_31
    rw [if_pos (show (64 : Int32) ≤ nI p from nI_le (a := 64) (by omega) (by omega)), hp]
  | succ k ih =>
    intro p f S h1 h2 xa hf hA
    obtain ⟨f, rfl⟩ : ∃ g, f = g + 1 := ⟨f - 1, by omega⟩
    obtain ⟨S1, e1, x1, r1⟩ := m_fits (Θ := Θ) (S := S) (ω := ω) (n := n) (lw := lw) (d := p) hW hM hn h40 hev ht hf
    have hA1 : ∀ u, u < p → ftB w lw nv len b u = true → ∀ s, s < 10 → zA S1 233 (10 * cfN (ftB w lw nv len b) u + s) = fgT w lw nv u s := by
      rw [x1.2.1 233 (by decide) (by decide) (by decide) (by decide)]; exact hA
    have ec : cfN (ftB w lw nv len b) (p + 1) = cfN (ftB w lw nv len b) p + (if ftB w lw nv len b p = true then 1 else 0) := rfl
    have hcp := cfN_le (ftB w lw nv len b) p
    rw [show L_X11_ask_31 Θ (f + 1) (gb Θ + 218) (nI nv) (nI (cfN (ftB w lw nv len b) p)) (nI p) (laz Θ S ω) n = B_X11_ask_31 Θ (L_X11_ask_31 Θ f) (gb Θ + 218) (nI nv) (nI (cfN (ftB w lw nv len b) p)) (nI p) (laz Θ S ω) n from rfl]
    unfold B_X11_ask_31 J_X11_ask_87
    rw [if_neg (show ¬ (64 : Int32) ≤ nI p from nI_ge (b := 64) (by omega) (by omega)), d218, e1, kI_v, nI_1]
    cases hfp : ftB w lw nv len b p with
    | false =>
      rw [hfp, if_neg (show ¬ false = true by decide), Nat.add_zero] at ec
      rw [if_pos (show b01 false = 0 from rfl)]
      have := ih (p + 1) f S1 (by omega) (by omega) (xa.xp x1) (hf.xp x1) (fun u hu hfu => hA1 u (by
        by_cases z : u = p
        · subst z; rw [hfp] at hfu; cases hfu
        · omega) hfu)
      rw [ec] at this
      exact this
    | true =>
      rw [hfp, if_pos rfl] at ec
      obtain ⟨h', e2, q1, q2⟩ := m_ask52_L (Θ := Θ) (S := S1) (ω := ω) (n := n) (K := L_X11_ask_31 Θ f) (l1 := nI nv) (l3 := nI p) (M := cfN (ftB w lw nv len b) p) (by omega) r1 10 0 5000 (zA S1 233) (by omega) (by omega)
      rw [uA_self] at e2
      have e2 : L_X11_ask_52 Θ (L_X11_ask_31 Θ f) 5000 (gb Θ + 218) (nI nv) (nI (cfN (ftB w lw nv len b) p)) (nI p) 0 (laz Θ S1 ω) n = _ := e2
      rw [if_neg (show ¬ b01 true = 0 by decide), e2, nI_1]
      have := ih (p + 1) f (uA S1 233 h') (by omega) (by omega) ((xa.xp x1).nA) (hf.xp x1).n33 (fun u hu hfu s hs => by
        rw [zA_eq]
        by_cases z : u = p
        · subst z; rw [q2 s hs, if_neg (by omega)]
        · have hlt := cfN_lt (show u < p by omega) hfu
          rw [q1 _ (by omega)]
          exact hA1 u (by omega) hfu s hs)
      rw [ec] at this
      exact this
end AS
theorem pc27 (Θ : GP) : PC_27 Θ (gb Θ) (gb Θ + 218) (gb Θ + 234) (Inv Θ) := by
  intro v xs i hI
  obtain ⟨S, ω, rfl, hC, hI⟩ := hI
  obtain ⟨lw, hL⟩ := hC.lw
  have hP8 := hC.1.1.P8
  obtain ⟨len, h4, hl, hm⟩ := hC.2.1
  have hbb := fun i (hi : i < len) => tbN_eq hC (i := i) (by omega)
  have hbX : ∀ i, i < len → zA S 2 i = nI (tbN S i) ∧ tbN S i ≤ 255 := fun i hi => ⟨(hbb i hi).1, (hbb i hi).2.1⟩
  have hbM : ∀ i, i < len → tbN S i ≤ 255 ∧ zA S 224 i = (if tbN S i < 128 then nI (tbN S i) else nI (tbN S i) - 256) := fun i hi => (hbb i hi).2
  show stW Θ _ _ (fun ω n => W_ask Θ (gb Θ) (xs (i + 1)) (gb Θ + 234) ω n) (fun ω n => F_X11_ask Θ (gb Θ + 218) (xs (i + 1)) ω n) _ _
  generalize xs (i + 1) = v
  by_cases hv : (len ≤ 40 ∧ len % 2 = 0 ∧ tdP len (tbN S) 0) ∧ ¬ (v < 1 ∨ 60 < v)
  · obtain ⟨nv, n1, n60, rfl⟩ := nv_of hv.2
    obtain ⟨⟨h40, hev, ht⟩, hv2⟩ := hv
    refine fin_W fun n _ => ?_
    obtain ⟨S1, e1, ks, o⟩ := x_sift_y (n := n) hC hL n1 n60 hl hbX h40 hev ht
    have h4' : ∀ u, u < 64 → zA (uF S1 1 0 0) 4 u = b01 (ftB (zA S 219) lw nv len (tbN S) u) := fun u hu => (o u hu).1
    have h5' : ∀ t, t < 10 → ∀ u, u < 64 → zA (uF S1 1 0 0) 5 (10 * u + t) = fgT (zA S 219) lw nv u t := fun t ht u hu => (o u hu).2 t ht
    have h19 : ∀ t, t < 10 → zA (uF S1 1 0 0) 19 t = pin (zA S 219) (nI t) := fun t ht => by
      show zA S1 19 t = _
      rw [ks.2.1 19 (by omega) (by omega) (by omega) (by omega)]
      exact CRt hC.1.2.1 ht
    have em : L_X7_howMany_4 Θ 5000 (gb Θ + 3) 0 0 (laz Θ (uF S1 1 0 0) ω) n = _ := x_many_L (Θ := Θ) (ω := ω) (n := n) h4' 64 0 5000 (0, 63) (by omega) (by omega)
    have ecf := foA_cf (ftB (zA S 219) lw nv len (tbN S)) 64 0 (0, 63)
    have ecf : (foA (ftB (zA S 219) lw nv len (tbN S)) 64 0 (0, 63)).1 = cfN (ftB (zA S 219) lw nv len (tbN S)) 64 := by
      have e0 : cfN (ftB (zA S 219) lw nv len (tbN S)) 0 = 0 := rfl
      rw [e0] at ecf
      dsimp only at ecf
      rw [Nat.zero_add] at ecf
      omega
    rw [ecf] at em
    have hq : brI (-1, 100000000) := Or.inl ⟨rfl, rfl⟩
    have hcl := cfN_le (ftB (zA S 219) lw nv len (tbN S)) 64
    obtain ⟨S2, eb, kb⟩ := x_best_L (Θ := Θ) (ω := ω) (n := n) (w := zA S 219) (fit := ftB (zA S 219) lw nv len (tbN S)) (gg := fun t u => fgT (zA S 219) lw nv u t) hP8.2 (fun t ht u _ => fgT_rg hC.1.1 hL.2 n60 u ht) 10 0 5000 (-1, 100000000) (uF S1 1 0 0) (by omega) (by omega) hq h19 h4' h5'
    rw [if_pos rfl] at eb
    have eb : L_X7_bestSlot_17 Θ 5000 (gb Θ + 3) (gb Θ + 19) (-1) 0 0 (laz Θ (uF S1 1 0 0) ω) n = _ := eb
    -- the class's end
    obtain ⟨S3, ex, k3⟩ : ∃ S3, F_X10_ask Θ (gb Θ) (nI nv) (laz Θ S ω) n = some (.inl (some (.int (if 1 < cfN (ftB (zA S 219) lw nv len (tbN S)) 64 then asS (zA S 219) (ftB (zA S 219) lw nv len (tbN S)) (fun t u => fgT (zA S 219) lw nv u t) 10 0 (-1, 100000000) else -1)), laz Θ S3 ω, n)) ∧ KS (uF S1 1 0 0) S3 := by
      unfold F_X10_ask F_X7_bestSlot F_X7_howMany
      rw [c10, e1, kI_v, if_neg (show ¬ (1 : Int32) = 0 by decide), r10_11, r10_0, a14_11, d3, d3, em, kI_v]
      by_cases z : 1 < cfN (ftB (zA S 219) lw nv len (tbN S)) 64
      · rw [if_pos (show (2 : Int32) ≤ nI (cfN (ftB (zA S 219) lw nv len (tbN S)) 64) from nI_le (a := 2) (by omega) (by omega)), eb, kI_v, if_pos z]
        exact ⟨S2, rfl, kb⟩
      · rw [if_neg (show ¬ (2 : Int32) ≤ nI (cfN (ftB (zA S 219) lw nv len (tbN S)) 64) from nI_ge (b := 2) (by omega) (by omega)), kI_v, if_neg z]
        exact ⟨_, rfl, KS.rf _⟩
    generalize hr : (if 1 < cfN (ftB (zA S 219) lw nv len (tbN S)) 64 then asS (zA S 219) (ftB (zA S 219) lw nv len (tbN S)) (fun t u => fgT (zA S 219) lw nv u t) 10 0 (-1, 100000000) else -1) = r at ex
    have ksb : KS S (uF S3 1 0 (zF S 1 0)) := by
      obtain ⟨a1, a2, a3, a4⟩ := k3
      obtain ⟨b1, b2, b3, b4⟩ := ks
      refine ⟨fun k j q => ?_, fun k p q r s => (a2 k p q r s).trans (b2 k p q r s), fun k j => (a3 k j).trans (b3 k j), fun k => (a4 k).trans (b4 k)⟩
      by_cases z : k = 1 ∧ j = 0
      · obtain ⟨rfl, rfl⟩ := z; rw [zF_eq]
      · rw [zF_ne _ _ z, a1 k j q, zF_ne _ _ z, b1 k j q]
    have h10 : zF S3 1 0 = 0 := by rw [k3.1 1 0 (by omega), zF_eq]
    have eS3 : uF (uF S3 1 0 (zF S 1 0)) 1 0 0 = S3 := by rw [uF_uF, ← h10, uF_self]
    refine ⟨0, uL S3 234 r.toInt64, ω, ?_, fun n2 => ?_⟩
    · show W_ask Θ (gb Θ) (nI nv) (gb Θ + 234) (laz Θ S ω) n = _
      unfold W_ask
      rw [c10w, ex, wrJ_v]
    have hC1 : Core Θ (uL (uF S3 1 0 (zF S 1 0)) 234 r.toInt64) ω := (hC.kp ksb.kt).nL
    have hI1 : Idle Θ (uL (uF S3 1 0 (zF S 1 0)) 234 r.toInt64) := (ksb.idle hI).nL
    have hCu := hC1.used
    have hIu : Idle Θ (uF (uF (uF (uF (uF (uL (uF S3 1 0 (zF S 1 0)) 234 r.toInt64) 1 0 0) 218 0 0) 218 11 (zF (uL (uF S3 1 0 (zF S 1 0)) 234 r.toInt64) 218 9)) 218 9 0) 218 10 0) := ((((hI1.nF (by omega)).nF (by omega)).nF (by omega)).nF (by omega)).nF (by omega)
    have eu := m_uses (Θ := Θ) (S := uL S3 234 r.toInt64) (ω := ω) (n := n2)
    have eT : uF (uF (uF (uF (uF (uL (uF S3 1 0 (zF S 1 0)) 234 r.toInt64) 1 0 0) 218 0 0) 218 11 (zF (uL (uF S3 1 0 (zF S 1 0)) 234 r.toInt64) 218 9)) 218 9 0) 218 10 0 = uF (uF (uF (uF (uL S3 234 r.toInt64) 218 0 0) 218 11 (zF (uL S3 234 r.toInt64) 218 9)) 218 9 0) 218 10 0 := by
      have e1 : uF (uL (uF S3 1 0 (zF S 1 0)) 234 r.toInt64) 1 0 0 = uL (uF (uF S3 1 0 (zF S 1 0)) 1 0 0) 234 r.toInt64 := rfl
      rw [e1, eS3]
      rfl
    rw [eT] at hCu hIu
    have hL11 : zF (uF (uF (uF (uF (uL S3 234 r.toInt64) 218 0 0) 218 11 (zF (uL S3 234 r.toInt64) 218 9)) 218 9 0) 218 10 0) 218 11 = nI len := by
      rw [zF_ne _ _ (by omega), zF_ne _ _ (by omega), zF_eq]
      show zF S3 218 9 = _
      rw [k3.1 218 9 (by omega), zF_ne _ _ (by omega), ks.1 218 9 (by omega)]
      exact hm
    have h00 : zF (uF (uF (uF (uF (uL S3 234 r.toInt64) 218 0 0) 218 11 (zF (uL S3 234 r.toInt64) 218 9)) 218 9 0) 218 10 0) 218 0 = 0 := by
      rw [zF_ne _ _ (by omega), zF_ne _ _ (by omega), zF_ne _ _ (by omega), zF_eq]
    have hLL : zL (uF (uF (uF (uF (uL S3 234 r.toInt64) 218 0 0) 218 11 (zF (uL S3 234 r.toInt64) 218 9)) 218 9 0) 218 10 0) 234 = r.toInt64 := rfl
    have hA19 : zA (uF (uF (uF (uF (uL S3 234 r.toInt64) 218 0 0) 218 11 (zF (uL S3 234 r.toInt64) 218 9)) 218 9 0) 218 10 0) 219 = zA S 219 := (k3.2.1 219 (by omega) (by omega) (by omega) (by omega)).trans (ks.2.1 219 (by omega) (by omega) (by omega) (by omega))
    have hA24 : zA (uF (uF (uF (uF (uL S3 234 r.toInt64) 218 0 0) 218 11 (zF (uL S3 234 r.toInt64) 218 9)) 218 9 0) 218 10 0) 224 = zA S 224 := (k3.2.1 224 (by omega) (by omega) (by omega) (by omega)).trans (ks.2.1 224 (by omega) (by omega) (by omega) (by omega))
    generalize uF (uF (uF (uF (uL S3 234 r.toInt64) 218 0 0) 218 11 (zF (uL S3 234 r.toInt64) 218 9)) 218 9 0) 218 10 0 = T at *
    have hft : FT T (zA S 219) len (tbN S) := ⟨hA19, hL11, hIu.2.2.1, hIu.2.2.2, by rw [hA24]; exact hbM⟩
    obtain ⟨S4, e4, x4, w4, a4⟩ := m_ask31_L (Θ := Θ) (S0 := T) (ω := ω) (n := n2) (lw := lw) hC.1.1 hL.2 n60 h40 hev ht 64 0 5000 T (by omega) (by omega) (XA.rf T) hft (fun u hu => by omega)
    have e4 : L_X11_ask_31 Θ 5000 (gb Θ + 218) (nI nv) 0 0 (laz Θ T ω) n2 = _ := e4
    have e5 : L_X11_ask_103 Θ 5000 (gb Θ + 218) (nI (cfN (ftB (zA S 219) lw nv len (tbN S)) 64)) (-1) 100000000 0 (laz Θ S4 ω) n2 = some (.inl (some (.int r), laz Θ S4 ω, n2)) := by
      rw [← hr]
      by_cases z : 1 < cfN (ftB (zA S 219) lw nv len (tbN S)) 64
      · rw [if_pos z]
        exact m_ask103_L (Θ := Θ) (S := S4) (ω := ω) (n := n2) (gg := fun t u => fgT (zA S 219) lw nv u t) w4 hC.1.1 z hcl rfl (fun u hu hf s hs => a4 u hu hf s hs) 10 0 5000 (-1, 100000000) (by omega) (by omega) hq
      · rw [if_neg z]
        show B_X11_ask_103 Θ (L_X11_ask_103 Θ 4999) (gb Θ + 218) (nI (cfN (ftB (zA S 219) lw nv len (tbN S)) 64)) (-1) 100000000 0 (laz Θ S4 ω) n2 = _
        unfold B_X11_ask_103 J_X11_ask_169
        rw [if_neg (by decide), if_pos (show nI (cfN (ftB (zA S 219) lw nv len (tbN S)) 64) ≤ 1 from nI_le (b := 1) (by omega) (by omega))]
    refine ⟨r, S4, n2, ?_, (x4.1 218 0 (by omega)).trans h00, fun _ => (x4.2.2.2 234).trans hLL, hCu.kp x4.kp, x4.idle hIu⟩
    show F_X11_ask Θ (gb Θ + 218) (nI nv) (laz Θ (uL S3 234 r.toInt64) ω) n2 = _
    unfold F_X11_ask J_X11_ask_18
    rw [d218, eu, kV_v, d218, m_told hL11 h4 hft.2.2.2.2, kI_v, dcC_t (⟨⟨h40, hev, ht⟩, hv2⟩ : (len ≤ 40 ∧ len % 2 = 0 ∧ tdP len (tbN S) 0) ∧ ¬ (nI nv < 1 ∨ 60 < nI nv)), if_neg (show ¬ b01 true = 0 by decide), d218, m_throwsIf0, kI_v, if_pos rfl, e4, e5]
  · refine fin_W fun n _ => ⟨1, uF S 1 0 0, ω, ?_, fun n2 => ⟨0, uF (uF (uF (uF (uF (uF S 1 0 0) 218 0 0) 218 11 (zF S 218 9)) 218 9 0) 218 10 0) 218 0 1, n2, ?_, zF_eq _ _ _ _, fun h => absurd h (by decide), hC.used.thr, (((((hI.nF (by omega)).nF (by omega)).nF (by omega)).nF (by omega)).nF (by omega)).thr⟩⟩
    · show W_ask Θ (gb Θ) v (gb Θ + 234) (laz Θ S ω) n = _
      unfold W_ask F_X10_ask
      rw [c10w, c10, x_sift_n hl h4 hbX hv, kI_v, if_pos rfl, wrJ_x]
    · show F_X11_ask Θ (gb Θ + 218) v (laz Θ (uF S 1 0 0) ω) n2 = _
      unfold F_X11_ask J_X11_ask_18
      rw [d218, m_uses, kV_v, d218, m_told (S := uF (uF (uF (uF (uF S 1 0 0) 218 0 0) 218 11 (zF (uF S 1 0 0) 218 9)) 218 9 0) 218 10 0) (len := len) (b := tbN S) (by rw [zF_ne _ _ (by omega), zF_ne _ _ (by omega), zF_eq]; exact hm) h4 hbM, kI_v, dcC_f hv, if_pos (show b01 false = 0 from rfl), d218, m_throwsIf1, kI_v, if_neg (show ¬ (1 : Int32) = 0 by decide)]
      rfl
