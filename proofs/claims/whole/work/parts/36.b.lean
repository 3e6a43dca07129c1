/-! a ride on the class's side -/
def isR (R : Nat) : Prop := R = 202 ∨ R = 208
theorem isR_kd {R : Nat} (h : isR R) : kdz R = 6 ∧ kdz (R + 1) = 20 ∧ kdz (R + 2) = 20 ∧ kdz (R + 3) = 20 ∧ kdz (R + 4) = 20 ∧ kdz (R + 5) = 20 := by
  rcases h with rfl | rfl <;> decide
theorem isR_al {R : Nat} (h : isR R) : alz (R + 1) = 10 ∧ alz (R + 2) = 8 ∧ alz (R + 3) = 10 ∧ alz (R + 4) = 10 ∧ alz (R + 5) = 8 := by
  rcases h with rfl | rfl <;> decide
/-- S' is as S but for what a ride R writes -/
def XR (R : Nat) (S S' : PZ) : Prop := (∀ k j, ¬ (k = R ∧ (j = 7 ∨ j = 8 ∨ j = 9 ∨ j = 12 ∨ j = 13)) → zF S' k j = zF S k j) ∧ (∀ k, k ≠ R + 3 → k ≠ R + 4 → k ≠ R + 5 → zA S' k = zA S k) ∧ (∀ k j, zR S' k j = zR S k j) ∧ (∀ k, zL S' k = zL S k)
theorem XR.rf (R : Nat) (S : PZ) : XR R S S := ⟨fun _ _ _ => rfl, fun _ _ _ _ => rfl, fun _ _ => rfl, fun _ => rfl⟩
theorem XR.trans {R : Nat} {S S' S'' : PZ} (h : XR R S S') (g : XR R S' S'') : XR R S S'' := ⟨fun k j q => (g.1 k j q).trans (h.1 k j q), fun k a b c => (g.2.1 k a b c).trans (h.2.1 k a b c), fun k j => (g.2.2.1 k j).trans (h.2.2.1 k j), fun k => (g.2.2.2 k).trans (h.2.2.2 k)⟩
theorem XR.nF {R : Nat} {S S' : PZ} (h : XR R S S') {j : Nat} {v : Int32} (q : j = 7 ∨ j = 8 ∨ j = 9 ∨ j = 12 ∨ j = 13) : XR R S (uF S' R j v) := by
  refine ⟨fun k i z => ?_, h.2.1, h.2.2.1, h.2.2.2⟩
  rw [zF_ne _ _ (by rintro ⟨rfl, rfl⟩; exact z ⟨rfl, q⟩), h.1 k i z]
theorem XR.nA {R : Nat} {S S' : PZ} (h : XR R S S') {k : Nat} {f : Nat → Int32} (q : k = R + 3 ∨ k = R + 4 ∨ k = R + 5) : XR R S (uA S' k f) := by
  refine ⟨h.1, fun a x y z => ?_, h.2.2.1, h.2.2.2⟩
  rw [zA_ne _ _ (by omega), h.2.1 a x y z]
/-- the ride R is laid as c says; the court now has the rest -/
def RX (Θ : GP) (S : PZ) (ω : OW) (R : Nat) (c : RPar) : Prop :=
  ROK c ∧ (∃ told, LawX Θ ω (zR S 14 17) told c.2.1) ∧ zF S 14 3 = c.1 5 ∧ (∀ p, p < cP c.1 → zA S 15 p = c.1 (4 * p + 9) ∧ zA S 16 p = c.1 (4 * p + 10) ∧ zA S (R + 2) p = c.1 (4 * p + 11)) ∧ (∀ s, s < 10 → zA S (R + 1) s = c.2.2.1 s) ∧
  zF S R 3 = c.2.2.2.2.2.2.1 ∧ zF S R 4 = c.2.2.2.2.1 ∧ zF S R 5 = c.2.2.2.2.2.1 ∧ (∀ p, p < 8 → (nI p = zF S R 6 ↔ c.2.2.2.1 p = true))
theorem RX.xr {Θ : GP} {S S' : PZ} {ω : OW} {R : Nat} {c : RPar} (hR : isR R) (h : RX Θ S ω R c) (x : XR R S S') : RX Θ S' ω R c := by
  obtain ⟨h1, h2, h3, h4, h5, h6, h7, h8, h9⟩ := h
  obtain ⟨x1, x2, x3, x4⟩ := x
  have hr : R = 202 ∨ R = 208 := hR
  refine ⟨h1, by rw [x3]; exact h2, by rw [x1 _ _ (by omega)]; exact h3, ?_, ?_, by rw [x1 _ _ (by omega)]; exact h6, by rw [x1 _ _ (by omega)]; exact h7, by rw [x1 _ _ (by omega)]; exact h8, by rw [x1 _ _ (by omega)]; exact h9⟩
  · rw [x2 15 (by omega) (by omega) (by omega), x2 16 (by omega) (by omega) (by omega), x2 (R + 2) (by omega) (by omega) (by omega)]; exact h4
  · rw [x2 (R + 1) (by omega) (by omega) (by omega)]; exact h5
theorem and1 (x : Int32) : x &&& 1 = if x &&& 1 = 1 then 1 else 0 := by
  obtain ⟨k, hk, e⟩ := nx_mask (x &&& 1)
  have h2 : ∃ j, j < 2 ∧ x &&& 1 = nI j := by
    have e1 : x &&& 1 = nI k := by rw [← e, Int32.and_assoc]; rfl
    have e2 : x &&& 1 = nI k &&& nI 1 := by rw [← e1, Int32.and_assoc]; rfl
    rw [nx_and, Nat.and_one_is_mod] at e2
    exact ⟨k % 2, by omega, e2⟩
  obtain ⟨j, hj, ej⟩ := h2
  rw [ej]
  have q : j = 0 ∨ j = 1 := by omega
  rcases q with rfl | rfl <;> rfl
section XM
variable {Θ : GP} {S : PZ} {ω : OW} {n : Nat} {R : Nat} {c : RPar}
/-- the class's facts for prop p in slot s -/
theorem x_meet (hR : isR R) (h : RX Θ S ω R c) {s : Nat} (hs : s < 10) (hn : c.2.2.1 s ≠ -1) (t : Int32) : ∃ f, F_X6_meet Θ (gb Θ + R) (nI s) t (laz Θ S ω) n = some (.inl (some (.ref (gb Θ + (R + 5))), laz Θ (uA S (R + 5) f) ω, n)) ∧ ∀ j, j < 8 → f j = rfc c s t j := by
  obtain ⟨hO, h2, h3, h4, h5, h6, h7, h8, h9⟩ := h
  obtain ⟨k0, k1, k2, k3, k4, k5⟩ := isR_kd hR
  obtain ⟨a1, a2, a3, a4, a5⟩ := isR_al hR
  obtain ⟨hW, _, ht, _⟩ := hO
  have hP8 := hW.P8
  rcases ht s hs with z | ⟨p, hp, e1, e2⟩
  · exact absurd z hn
  have er : rpr c s = p := by unfold rpr; rw [e1]; exact nI_clamp (by omega)
  obtain ⟨d1, d2, d3⟩ := h4 p hp
  refine ⟨upd (upd (upd (upd (upd (upd (upd (upd (zA S (R + 5)) 0 (nI p)) 1 (nI s)) 2 (c.1 (4 * p + 10))) 3 (c.1 (4 * p + 11))) 4 t) 5 c.2.2.2.2.1) 6 ((c.2.2.2.2.2.1 >>> (nI p &&& 31)) &&& 1)) 7 ((c.2.2.2.2.2.2.1 >>> (c.1 (4 * p + 9) &&& 31)) &&& 1), ?_, ?_⟩
  · unfold F_X6_meet J_X6_meet_107
    have hr : R = 202 ∨ R = 208 := hR
    rw [r6_1 k0, z_lI k1 (by omega) (by omega), h5 s hs, e1, if_neg (nI_pos (by omega)), r6_14 k0, sI_lit, z_sI k5 (by rw [a5]; decide) (by omega), r6_14 k0, sI_lit, z_sI k5 (by rw [a5]; decide) (by omega), uA_uA, r6_14 k0, r6_0 k0, a14_8, l_16 (by omega), sI_lit, z_sI k5 (by rw [a5]; decide) (by omega), uA_uA, r6_14 k0, r6_2 k0, z_lI k2 (by omega) (by omega), sI_lit, z_sI k5 (by rw [a5]; decide) (by omega), uA_uA, r6_14 k0, sI_lit, z_sI k5 (by rw [a5]; decide) (by omega), uA_uA, r6_14 k0, r6_4 k0, sI_lit, z_sI k5 (by rw [a5]; decide) (by omega), uA_uA, r6_14 k0, r6_5 k0, sI_lit, z_sI k5 (by rw [a5]; decide) (by omega), uA_uA, r6_14 k0, r6_3 k0, r6_0 k0, a14_7, l_15 (by omega), sI_lit, z_sI k5 (by rw [a5]; decide) (by omega), uA_uA, r6_14 k0]
    simp only [zA_eq, zF_uA]
    rw [zA_ne _ _ (show 16 ≠ R + 5 by omega), zA_ne _ _ (show R + 2 ≠ R + 5 by omega), zA_ne _ _ (show 15 ≠ R + 5 by omega), d1, d2, d3, h6, h7, h8]
  · intro j hj
    unfold rfc
    rw [er]
    have q : j = 0 ∨ j = 1 ∨ j = 2 ∨ j = 3 ∨ j = 4 ∨ j = 5 ∨ j = 6 ∨ j = 7 := by omega
    rcases q with rfl | rfl | rfl | rfl | rfl | rfl | rfl | rfl
    · rfl
    · exact e2.symm
    · rfl
    · rfl
    · rfl
    · rfl
    · show (c.2.2.2.2.2.1 >>> (nI p &&& 31)) &&& 1 = hasS c.2.2.2.2.2.1 (nI p)
      unfold hasS
      exact and1 _
    · show (c.2.2.2.2.2.2.1 >>> (c.1 (4 * p + 9) &&& 31)) &&& 1 = hasS c.2.2.2.2.2.2.1 (c.1 (4 * p + 9))
      unfold hasS
      exact and1 _
/-- a slot of a ride, come to -/
theorem x_frAt (hR : isR R) (h : RX Θ S ω R c) {s : Nat} (hs : s < 10) (hn : c.2.2.1 s ≠ -1) {t : Int32} (ht : Rg t 100000) {f : Nat → Int32} (hf : ∀ j, j < 8 → f j = rfc c s t j) : F_X2_frightsBy Θ (zR S 14 17) (gb Θ + (R + 5)) (laz Θ (uA S (R + 5) f) ω) n = some (.inl (some (.int (frS c.2.1 (rfc c s t))), laz Θ (uA S (R + 5) f) ω, n)) := by
  obtain ⟨told, hL⟩ := h.2.1
  have hM := h.1.2.1
  have hb := rfc_fb h.1 hs hn ht
  have hb' : FB f := hb.ext (fun j hj => (hf j hj).symm)
  have e := x_frightsBy (Θ := Θ) (S := uA S (R + 5) f) (ω := ω) (n := n) (c := R + 5) hL hM.1 (fun l hl => (hM.ln l hl).1) (isR_kd hR).2.2.2.2.2 (isR_al hR).2.2.2.2 (by rw [zA_eq]; exact hb')
  rw [zA_eq, frS_ext hM hf hb'] at e
  exact e
theorem x_weAt (hR : isR R) (h : RX Θ S ω R c) {s : Nat} (hs : s < 10) (hn : c.2.2.1 s ≠ -1) {t : Int32} (ht : Rg t 100000) {f : Nat → Int32} (hf : ∀ j, j < 8 → f j = rfc c s t j) : F_X2_wearsBy Θ (zR S 14 17) (gb Θ + (R + 5)) (laz Θ (uA S (R + 5) f) ω) n = some (.inl (some (.int (weS c.2.1 (rfc c s t))), laz Θ (uA S (R + 5) f) ω, n)) := by
  obtain ⟨told, hL⟩ := h.2.1
  have hM := h.1.2.1
  have hb := rfc_fb h.1 hs hn ht
  have hb' : FB f := hb.ext (fun j hj => (hf j hj).symm)
  have e := x_wearsBy (Θ := Θ) (S := uA S (R + 5) f) (ω := ω) (n := n) (c := R + 5) hL hM.1 (isR_kd hR).2.2.2.2.2 (isR_al hR).2.2.2.2 (by rw [zA_eq]; exact hb')
  rw [zA_eq, weS_ext hM hf hb'] at e
  exact e
theorem x_law_ob (h : RX Θ S ω R c) : ∃ fs, ω (zR S 14 17) = some (.inr (2, fs)) ∧ notOurs Θ (zR S 14 17) := by
  obtain ⟨told, ak, aa, as, ac, lk, ll, ls, lc, sf, cf, ⟨e1, _⟩, ⟨n1, _⟩, _⟩ := h.2.1
  exact ⟨_, e1, n1⟩
/-- the flags of a ride as numbers -/
def b01 (b : Bool) : Int32 := if b = true then 1 else 0
/-- what the end of a step leaves -/
def XE (R : Nat) (S S' : PZ) (s : Nat) (t : Int32) : Prop := zA S' (R + 3) = upd (zA S (R + 3)) s t ∧ (∀ k, k ≠ R + 3 → zA S' k = zA S k) ∧ (∀ k j, ¬ (k = R ∧ j = 8) → zF S' k j = zF S k j) ∧ (∀ k j, zR S' k j = zR S k j) ∧ (∀ k, zL S' k = zL S k)
theorem x_end (hR : isR R) {s : Nat} (hs : s < 10) {nv t : Int32} (te : Bool) (h4 : zF S R 4 = nv) (h8 : zF S R 8 = -1) (h9 : zF S R 9 = t) (h13 : zF S R 13 = b01 te) : ∃ S', J_X6_screamsIn_112 Θ (gb Θ + R) (nI s) (laz Θ S ω) n = some (.inl (some (.int (if (if ¬ t ≤ nv ∧ te = false then nI s else -1) = -1 then 0 else 1)), laz Θ S' ω, n)) ∧ zF S' R 8 = (if ¬ t ≤ nv ∧ te = false then nI s else -1) ∧ XE R S S' s t := by
  obtain ⟨k0, k1, k2, k3, k4, k5⟩ := isR_kd hR
  obtain ⟨a1, a2, a3, a4, a5⟩ := isR_al hR
  unfold J_X6_screamsIn_112 J_X6_screamsIn_145 J_X6_screamsIn_158
  rw [r6_10 k0, r6_9 k0, h9, z_sI k3 (by omega) (by omega), r6_9 k0, r6_4 k0, zF_uA, zF_uA, h9, h4]
  have hs1 : ¬ nI s = -1 := fun y => (q_m1 (by omega)).mp y
  have hA : XE R S (uA S (R + 3) (upd (zA S (R + 3)) s t)) s t := ⟨zA_eq _ _ _, fun k hk => zA_ne _ _ hk, fun k j _ => rfl, fun _ _ => rfl, fun _ => rfl⟩
  by_cases z : t ≤ nv
  · have hv : (if ¬ t ≤ nv ∧ te = false then nI s else -1) = -1 := if_neg (fun y => y.1 z)
    rw [hv, if_pos z, r6_8 k0, zF_uA, h8, if_pos rfl, bz_0]
    exact ⟨_, rfl, by rw [zF_uA, h8], hA⟩
  · rw [if_neg z, r6_13 k0, zF_uA, h13]
    cases te with
    | true =>
      have hv : (if ¬ t ≤ nv ∧ true = false then nI s else -1) = -1 := if_neg (fun y => by cases y.2)
      rw [hv, if_neg (by decide), r6_8 k0, zF_uA, h8, if_pos rfl, bz_0]
      exact ⟨_, rfl, by rw [zF_uA, h8], hA⟩
    | false =>
      have hv : (if ¬ t ≤ nv ∧ false = false then nI s else -1) = nI s := if_pos ⟨z, rfl⟩
      rw [hv, if_pos (by decide), w6_8 k0, r6_8 k0, zF_eq, if_neg hs1, bz_1]
      refine ⟨uF (uA S (R + 3) (upd (zA S (R + 3)) s t)) R 8 (nI s), by rw [if_neg hs1], zF_eq _ _ _ _, ?_⟩
      exact ⟨zA_eq _ _ _, fun k hk => by rw [zA_uF, zA_ne _ _ hk], fun k j q => by rw [zF_ne _ _ q, zF_uA], fun _ _ => rfl, fun _ => rfl⟩
theorem XE.xr {S' : PZ} {s : Nat} {t : Int32} (h : XE R S S' s t) : XR R S S' := ⟨fun k j q => h.2.2.1 k j (fun z => q ⟨z.1, by omega⟩), fun k a _ _ => h.2.1 k a, h.2.2.2.1, h.2.2.2.2⟩
/-- what a step of a ride leaves -/
def XS (R : Nat) (S S' : PZ) (c : RPar) (s : Nat) (t : Int32) (q : RSt) : Prop := XR R S S' ∧ zF S' R 8 = q.1 ∧ zF S' R 9 = q.2.1 ∧ zF S' R 7 = q.2.2 ∧ zF S' R 12 = zF S R 12 ∧ zF S' R 13 = zF S R 13 ∧ zA S' (R + 3) = upd (zA S (R + 3)) s q.2.1 ∧ zA S' (R + 4) = (if c.2.2.1 s = -1 then zA S (R + 4) else upd (zA S (R + 4)) s (rfr c s t))
theorem x_jolt (hR : isR R) (h : RX Θ S ω R c) {s : Nat} (hs : s < 10) (hn : c.2.2.1 s ≠ -1) {t sd : Int32} (h8 : zF S R 8 = -1) (h9 : zF S R 9 = t) (h7 : zF S R 7 = sd) (h12 : zF S R 12 = b01 c.2.2.2.2.2.2.2.1) (h13 : zF S R 13 = b01 c.2.2.2.2.2.2.2.2) : ∃ S', J_X6_screamsIn_78 Θ (gb Θ + R) (nI s) (rfr c s t) (laz Θ S ω) n = some (.inl (some (.int (if (rst1 c s (-1, t, sd)).1 = -1 then 0 else 1)), laz Θ S' ω, n)) ∧ XS R S S' c s t (rst1 c s (-1, t, sd)) := by
  obtain ⟨k0, k1, k2, k3, k4, k5⟩ := isR_kd hR
  obtain ⟨a1, a2, a3, a4, a5⟩ := isR_al hR
  have h4 := h.2.2.2.2.2.2.1
  have er : rst1 c s (-1, t, sd) = (if ¬ rte c s t sd ≤ c.2.2.2.2.1 ∧ c.2.2.2.2.2.2.2.2 = false then nI s else -1, rte c s t sd, rsd c s sd) := by
    unfold rst1
    rw [if_pos rfl]
  have et : rte c s t sd = t + (rfr c s t + (if c.2.2.2.2.2.2.2.1 = true then joS sd else 1)) := by unfold rte; rw [if_neg hn]
  have es : rsd c s sd = if c.2.2.2.2.2.2.2.1 = true then nxS sd else sd := by unfold rsd; rw [if_neg hn]
  rw [er]
  unfold J_X6_screamsIn_78 J_X6_screamsIn_107
  rw [r6_11 k0, z_sI k4 (by omega) (by omega), r6_9 k0, r6_12 k0, zF_uA, zF_uA, h9, h12]
  cases hd : c.2.2.2.2.2.2.2.1 with
  | false =>
    rw [hd] at et es
    rw [if_neg (by decide)] at et es
    rw [if_pos (by decide), w6_9 k0, ← et]
    obtain ⟨S', e1, e2, e3, e4, e5, e6, e7⟩ := x_end (Θ := Θ) (S := uF (uA S (R + 4) (upd (zA S (R + 4)) s (rfr c s t))) R 9 (rte c s t sd)) (ω := ω) (n := n) (nv := c.2.2.2.2.1) (t := rte c s t sd) hR hs c.2.2.2.2.2.2.2.2 (by rw [zF_ne _ _ (by omega), zF_uA]; exact h4) (by rw [zF_ne _ _ (by omega), zF_uA]; exact h8) (zF_eq _ _ _ _) (by rw [zF_ne _ _ (by omega), zF_uA]; exact h13)
    refine ⟨S', e1, ?_⟩
    have x0 : XR R S (uF (uA S (R + 4) (upd (zA S (R + 4)) s (rfr c s t))) R 9 (rte c s t sd)) := ((XR.rf R S).nA (by omega)).nF (by omega)
    refine ⟨x0.trans (XE.xr ⟨e3, e4, e5, e6, e7⟩), e2, ?_, ?_, ?_, ?_, ?_, ?_⟩
    · rw [e5 R 9 (by omega), zF_eq]
    · rw [e5 R 7 (by omega), zF_ne _ _ (by omega), zF_uA, h7, es]
    · rw [e5 R 12 (by omega), zF_ne _ _ (by omega), zF_uA]
    · rw [e5 R 13 (by omega), zF_ne _ _ (by omega), zF_uA]
    · rw [e3, zA_uF, zA_ne _ _ (by omega)]
    · rw [e4 _ (by omega), zA_uF, zA_eq, if_neg hn]
  | true =>
    rw [hd] at et es
    rw [if_pos rfl] at et es
    unfold F_X6_drawJolt
    rw [if_neg (by decide), c6 k0, r6_7 k0, w6_7 k0, r6_7 k0, zF_eq, zF_uA, h7, kI_v, w6_9 k0]
    have et' : t + (rfr c s t + (((1103515245 * sd + 12345) >>> ((16 : Int32) &&& 31) &&& 32767) - ((1103515245 * sd + 12345) >>> ((16 : Int32) &&& 31) &&& 32767) / 3 * 3)) = rte c s t sd := et.symm
    rw [et']
    obtain ⟨S', e1, e2, e3, e4, e5, e6, e7⟩ := x_end (Θ := Θ) (S := uF (uF (uA S (R + 4) (upd (zA S (R + 4)) s (rfr c s t))) R 7 (1103515245 * sd + 12345)) R 9 (rte c s t sd)) (ω := ω) (n := n) (nv := c.2.2.2.2.1) (t := rte c s t sd) hR hs c.2.2.2.2.2.2.2.2 (by rw [zF_ne _ _ (by omega), zF_ne _ _ (by omega), zF_uA]; exact h4) (by rw [zF_ne _ _ (by omega), zF_ne _ _ (by omega), zF_uA]; exact h8) (zF_eq _ _ _ _) (by rw [zF_ne _ _ (by omega), zF_ne _ _ (by omega), zF_uA]; exact h13)
    refine ⟨S', e1, ?_⟩
    have x0 : XR R S (uF (uF (uA S (R + 4) (upd (zA S (R + 4)) s (rfr c s t))) R 7 (1103515245 * sd + 12345)) R 9 (rte c s t sd)) := (((XR.rf R S).nA (by omega)).nF (by omega)).nF (by omega)
    refine ⟨x0.trans (XE.xr ⟨e3, e4, e5, e6, e7⟩), e2, ?_, ?_, ?_, ?_, ?_, ?_⟩
    · rw [e5 R 9 (by omega), zF_eq]
    · rw [e5 R 7 (by omega), zF_ne _ _ (by omega), zF_eq, es]; rfl
    · rw [e5 R 12 (by omega), zF_ne _ _ (by omega), zF_ne _ _ (by omega), zF_uA]
    · rw [e5 R 13 (by omega), zF_ne _ _ (by omega), zF_ne _ _ (by omega), zF_uA]
    · rw [e3, zA_uF, zA_uF, zA_ne _ _ (by omega)]
    · rw [e4 _ (by omega), zA_uF, zA_uF, zA_eq, if_neg hn]
theorem x_screamsIn (hR : isR R) (h : RX Θ S ω R c) {s : Nat} (hs : s < 10) {t sd : Int32} (ht : Rg t 10000) (h8 : zF S R 8 = -1) (h9 : zF S R 9 = t) (h7 : zF S R 7 = sd) (h12 : zF S R 12 = b01 c.2.2.2.2.2.2.2.1) (h13 : zF S R 13 = b01 c.2.2.2.2.2.2.2.2) : ∃ S', F_X6_screamsIn Θ (gb Θ + R) (nI s) (laz Θ S ω) n = some (.inl (some (.int (if (rst1 c s (-1, t, sd)).1 = -1 then 0 else 1)), laz Θ S' ω, n)) ∧ XS R S S' c s t (rst1 c s (-1, t, sd)) := by
  obtain ⟨k0, k1, k2, k3, k4, k5⟩ := isR_kd hR
  obtain ⟨a1, a2, a3, a4, a5⟩ := isR_al hR
  have htk := h.2.2.2.2.1 s hs
  have h4 := h.2.2.2.2.2.2.1
  have hP8 := h.1.1.P8
  unfold F_X6_screamsIn
  rw [r6_8 k0, h8, if_pos rfl, r6_1 k0, z_lI k1 (by omega) (by omega), htk]
  rcases h.1.2.2.1 s hs with z | ⟨p, hp, e1, e2⟩
  · rw [z, if_neg (by decide), r6_9 k0, r6_0 k0, a14_3, h.2.2.1, h9, w6_9 k0]
    have et : rte c s t sd = cmx (t - c.1 5) := by unfold rte; rw [if_pos z]
    have es : rsd c s sd = sd := by unfold rsd; rw [if_pos z]
    have er : rst1 c s (-1, t, sd) = (if ¬ rte c s t sd ≤ c.2.2.2.2.1 ∧ c.2.2.2.2.2.2.2.2 = false then nI s else -1, rte c s t sd, rsd c s sd) := by
      unfold rst1
      rw [if_pos rfl]
    rw [show (if 0 < t - c.1 5 then t - c.1 5 else 0) = rte c s t sd from et.symm, er]
    obtain ⟨S', e1, e2, e3, e4, e5, e6, e7⟩ := x_end (Θ := Θ) (S := uF S R 9 (rte c s t sd)) (ω := ω) (n := n) (nv := c.2.2.2.2.1) (t := rte c s t sd) hR hs c.2.2.2.2.2.2.2.2 (by rw [zF_ne _ _ (by omega)]; exact h4) (by rw [zF_ne _ _ (by omega)]; exact h8) (zF_eq _ _ _ _) (by rw [zF_ne _ _ (by omega)]; exact h13)
    refine ⟨S', e1, ?_⟩
    have x0 : XR R S (uF S R 9 (rte c s t sd)) := (XR.rf R S).nF (by omega)
    refine ⟨x0.trans (XE.xr ⟨e3, e4, e5, e6, e7⟩), e2, ?_, ?_, ?_, ?_, ?_, ?_⟩
    · rw [e5 R 9 (by omega), zF_eq]
    · rw [e5 R 7 (by omega), zF_ne _ _ (by omega), h7, es]
    · rw [e5 R 12 (by omega), zF_ne _ _ (by omega)]
    · rw [e5 R 13 (by omega), zF_ne _ _ (by omega)]
    · rw [e3, zA_uF]
    · rw [e4 _ (by omega), zA_uF, if_pos z]
  · have hn : c.2.2.1 s ≠ -1 := by rw [e1]; exact fun y => (q_m1 (by omega)).mp y
    have er : rpr c s = p := by unfold rpr; rw [e1]; exact nI_clamp (by omega)
    rw [e1, if_pos (nI_pos' (by omega)), r6_1 k0, z_lI k1 (by omega) (by omega), htk, e1, r6_6 k0]
    have h6 := h.2.2.2.2.2.2.2.2 p (by omega)
    by_cases z : nI p = zF S R 6
    · have ef : rfr c s t = 0 := by unfold rfr; rw [er, if_pos (h6.mp z)]
      rw [if_pos z]
      have := x_jolt (n := n) hR h hs hn h8 h9 h7 h12 h13
      rw [ef] at this
      exact this
    · have ef : rfr c s t = frS c.2.1 (rfc c s t) := by unfold rfr; rw [er, if_neg (fun y => z (h6.mpr y))]
      obtain ⟨fs, o1, o2⟩ := x_law_ob h
      obtain ⟨f, m1, m2⟩ := x_meet (n := n) hR h hs hn t
      rw [if_neg z, r6_0 k0, a14_17, r6_9 k0, h9, c6 k0, m1, kA_v, o_cO o1 o2, x_frAt hR h hs hn (ht.le (by omega)) m2, kI_v, ← ef]
      have x0 : XR R S (uA S (R + 5) f) := (XR.rf R S).nA (by omega)
      obtain ⟨S', e1', xs⟩ := x_jolt (n := n) hR (h.xr hR x0) hs hn h8 h9 h7 h12 h13
      refine ⟨S', e1', x0.trans xs.1, xs.2.1, xs.2.2.1, xs.2.2.2.1, xs.2.2.2.2.1, xs.2.2.2.2.2.1, ?_, ?_⟩
      · rw [xs.2.2.2.2.2.2.1, zA_ne _ _ (by omega)]
      · rw [xs.2.2.2.2.2.2.2, zA_ne _ _ (by omega)]
end XM
