/-! the law on the reference's side -/
theorem zA_eq (S : PZ) (k : Nat) (f : Nat → Int32) : zA (uA S k f) k = f := by rw [zA_uA, if_pos rfl]
theorem zA_ne (S : PZ) {k a : Nat} (f : Nat → Int32) (h : a ≠ k) : zA (uA S k f) a = zA S a := by rw [zA_uA, if_neg h]
theorem zF_eq (S : PZ) (k j : Nat) (v : Int32) : zF (uF S k j v) k j = v := by rw [zF_uF, if_pos ⟨rfl, rfl⟩]
theorem zF_ne (S : PZ) {k j a b : Nat} (v : Int32) (h : ¬ (a = k ∧ b = j)) : zF (uF S k j v) a b = zF S a b := by rw [zF_uF, if_neg h]
def hasS (x k : Int32) : Int32 := if (x >>> (k &&& 31)) &&& 1 = 1 then 1 else 0
/-- the facts of prop p for one who comes so tense -/
def fcS (w : Nat → Int32) (p : Nat) (t nv kn dd : Int32) : Nat → Int32 := fun j => if j = 0 then nI p else if j = 1 then w (4 * p + 12) else if j = 2 then w (4 * p + 10) else if j = 3 then w (4 * p + 11) else if j = 4 then t else if j = 5 then nv else if j = 6 then hasS kn (nI p) else if j = 7 then hasS dd (w (4 * p + 9)) else 0
section ML
variable {Θ : GP} {S : PZ} {ω : OW} {n : Nat}
theorem m_has (x k : Int32) (v : OW) : F_X11_has Θ x k v n = some (.inl (some (.int (hasS x k)), v, n)) := by
  unfold F_X11_has J_X11_has_14 hasS
  split
  · rw [bz_1]
  · rw [bz_0]
theorem hasS_01 (x k : Int32) : hasS x k = 0 ∨ hasS x k = 1 := by
  unfold hasS
  split
  · exact Or.inr rfl
  · exact Or.inl rfl
theorem m_factOf {p : Nat} {t nv kn dd : Int32} (hp : p < 8) (h21 : zF S 218 21 = nI p) (h22 : zF S 218 22 = t) (h19 : zF S 218 19 = nv) (h20 : zF S 218 20 = kn) (h18 : zF S 218 18 = dd) (st x : Int32) : F_X11_factOf Θ (gb Θ + 218) st x (laz Θ S ω) n = some (.inl (some (.int (fvM (fcS (zA S 219) p t nv kn dd) st x)), laz Θ S ω, n)) := by
  unfold F_X11_factOf J_X11_factOf_112 J_X11_factOf_137 fvM
  by_cases z0 : st = 0
  · rw [if_pos z0, if_pos z0, a218_21, h21]; rfl
  rw [if_neg z0, if_neg z0]
  by_cases z1 : st = 1
  · rw [if_pos z1, if_pos z1, a218_21, h21, d218, m_ofProp3 hp, kI_v]; rfl
  rw [if_neg z1, if_neg z1]
  by_cases z2 : st = 2
  · rw [if_pos z2, if_pos z2, a218_21, h21, d218, m_ofProp1 hp, kI_v]; rfl
  rw [if_neg z2, if_neg z2]
  by_cases z3 : st = 3
  · rw [if_pos z3, if_pos z3, a218_21, h21, d218, m_ofProp2 hp, kI_v]; rfl
  rw [if_neg z3, if_neg z3]
  by_cases z4 : st = 4
  · rw [if_pos z4, if_pos z4, a218_22, h22]; rfl
  rw [if_neg z4, if_neg z4]
  by_cases z5 : st = 5
  · rw [if_pos z5, if_pos z5, a218_19, h19]; rfl
  rw [if_neg z5, if_neg z5]
  by_cases z6 : st = 6
  · rw [if_pos z6, if_pos z6, a218_20, a218_21, h20, h21, m_has, kI_v]
    have e : fcS (zA S 219) p t nv kn dd 6 = hasS kn (nI p) := rfl
    rw [e]
    rcases hasS_01 kn (nI p) with h | h
    · rw [h, if_pos rfl]
    · rw [h, if_neg (by decide)]
  rw [if_neg z6, if_neg z6]
  by_cases z7 : st = 7
  · rw [if_pos z7, if_pos z7, a218_18, a218_21, h18, h21, d218, m_ofProp0 hp, kI_v, m_has, kI_v]
    have e : fcS (zA S 219) p t nv kn dd 7 = hasS dd (zA S 219 (4 * p + 9)) := rfl
    rw [e]
    rcases hasS_01 dd (zA S 219 (4 * p + 9)) with h | h
    · rw [h, if_pos rfl]
    · rw [h, if_neg (by decide)]
  rw [if_neg z7, if_neg z7]
theorem ixs (i : Nat) : (354 : Int32) + 2 * nI i = nI (2 * i + 354) := by
  show nI 354 + nI 2 * nI i = _
  rw [nI_mul, nI_add]; congr 1; omega
theorem ixs1 (i : Nat) : (354 : Int32) + 2 * nI i + 1 = nI (2 * i + 355) := by
  rw [ixs]; exact nI_add _ 1
theorem m1_add {t : Nat} (h : 1 ≤ t) : nI t + (-1) = nI (t - 1) := by
  have e : nI t = nI (t - 1) + 1 := by rw [nI_1]; congr 1; omega
  rw [e]
  grind
theorem m_run {p l E : Nat} {t nv kn dd : Int32} (hp : p < 8) (h21 : zF S 218 21 = nI p) (h22 : zF S 218 22 = t) (h19 : zF S 218 19 = nv) (h20 : zF S 218 20 = kn) (h18 : zF S 218 18 = dd) (hl : l < 12) (hE : zA S 219 (4 * l + 309) = nI E) (hE4 : E ≤ 400) {v' : Nat → Int32} {tp' : Nat} : ∀ (k i fu tp : Nat) (v : Nat → Int32), i + k = E → tp ≤ i → RnM (zA S 219) (fcS (zA S 219) p t nv kn dd) k (i, v, tp) (E, v', tp') → k < fu → L_X11_holdsLine_20 Θ fu (gb Θ + 218) (nI tp) (nI (4 * l + 306)) (nI i) (laz Θ (uA S 226 v) ω) n = some (.inl (some (.int (if tp' = 0 ∨ v' 0 = 1 then 1 else 0)), laz Θ (uA S 226 v') ω, n)) := by
  have eE : nI (4 * l + 306) + 3 = nI (4 * l + 309) := nI_add _ 3
  intro k
  induction k with
  | zero =>
    intro i fu tp v h1 htp hr h2
    obtain ⟨fu, rfl⟩ : ∃ g, fu = g + 1 := ⟨fu - 1, by omega⟩
    obtain ⟨he, _⟩ := hr
    cases he
    unfold L_X11_holdsLine_20 B_X11_holdsLine_20 J_X11_holdsLine_273 J_X11_holdsLine_278
    rw [a218_1, eE, l_219 (by omega), zA_ne _ _ (show 219 ≠ 226 by decide), hE, if_pos (nI_le (Nat.le_refl _) (by omega))]
    by_cases z : tp' = 0
    · rw [if_pos (by rw [z]; decide), bz_1, if_pos (Or.inl z)]
    · rw [if_neg (show ¬ nI tp' = 0 from fun h => z ((nI_eq (b := 0) (by omega) (by decide)).mp h)), a218_17, lI_lit, l_226 (by decide), zA_eq]
      by_cases x : v' 0 = 1
      · rw [if_pos x, bz_1, if_pos (Or.inr x)]
      · rw [if_neg x, bz_0, if_neg (fun h => h.elim z x)]
  | succ k ih =>
    intro i fu tp v h1 htp hr h2
    obtain ⟨fu, rfl⟩ : ∃ g, fu = g + 1 := ⟨fu - 1, by omega⟩
    obtain ⟨⟨ho1, ho2, ho⟩, hr'⟩ := RnM.succ.mp hr
    have ho1 : i < 400 := ho1
    have ho2 : tp ≤ i := ho2
    unfold L_X11_holdsLine_20 B_X11_holdsLine_20 J_X11_holdsLine_218 J_X11_holdsLine_252 J_X11_holdsLine_253
    rw [a218_1, eE, l_219 (by omega), zA_ne _ _ (show 219 ≠ 226 by decide), hE, if_neg (nI_ge (by omega) (by omega)), a218_1, ixs, l_219 (by omega), zA_ne _ _ (show 219 ≠ 226 by decide)]
    unfold s1M at hr'
    rcases ho with ⟨q, hq, hw⟩ | ⟨hw, ht⟩ | ⟨⟨q, hq1, hq2, hq3, hw⟩, ht⟩
    · have hw : zA S 219 (2 * i + 354) = nI q := hw
      have z8 : ¬ (8 : Int32) < nI q := nI_nlt (a := 8) (by omega) (by decide)
      rw [if_pos (show zA S 219 (2 * (i, v, tp).1 + 354) ≤ 8 by show zA S 219 (2 * i + 354) ≤ 8; rw [hw]; exact nI_le (b := 8) hq (by decide))] at hr'
      rw [hw, if_neg z8, a218_17, a218_1, show nI (2 * i + 354) + 1 = nI (2 * i + 355) from nI_add _ 1, l_219 (by omega), zA_ne _ _ (show 219 ≠ 226 by decide), d218, m_factOf hp (by exact h21) (by exact h22) (by exact h19) (by exact h20) (by exact h18), kI_v, s_226 (by omega), uA_uA, zA_eq, zA_ne _ _ (show 219 ≠ 226 by decide), nI_1, nI_1]
      have := ih (i + 1) fu (tp + 1) _ (by omega) (by omega) hr' (by omega)
      rw [← hw]
      exact this
    · have hw : zA S 219 (2 * i + 354) = 12 := hw
      have ht : 1 ≤ tp := ht
      rw [if_neg (show ¬ zA S 219 (2 * (i, v, tp).1 + 354) ≤ 8 by show ¬ zA S 219 (2 * i + 354) ≤ 8; rw [hw]; decide), if_pos (show zA S 219 (2 * (i, v, tp).1 + 354) = 12 from hw)] at hr'
      have e1 : nI tp - 1 = nI (tp - 1) := nI_sub (b := 1) ht
      rw [hw, if_pos (by decide), if_pos rfl, a218_17, a218_17, e1, l_226 (by omega), s_226 (by omega), uA_uA, zA_eq, nI_1]
      exact ih (i + 1) fu tp _ (by omega) (by omega) hr' (by omega)
    · have hw : zA S 219 (2 * i + 354) = nI q := hw
      have ht : 2 ≤ tp := ht
      have n8 : ¬ nI q ≤ 8 := nI_ge (a := 8) (by omega) (by omega)
      have n12 : ¬ nI q = 12 := fun h => hq3 ((nI_eq (b := 12) (by omega) (by decide)).mp h)
      rw [if_neg (show ¬ zA S 219 (2 * (i, v, tp).1 + 354) ≤ 8 by show ¬ zA S 219 (2 * i + 354) ≤ 8; rw [hw]; exact n8), if_neg (show ¬ zA S 219 (2 * (i, v, tp).1 + 354) = 12 by show ¬ zA S 219 (2 * i + 354) = 12; rw [hw]; exact n12)] at hr'
      have e1 : nI tp + (-1) = nI (tp - 1) := m1_add (by omega)
      have e2 : nI (tp - 1) - 1 = nI (tp - 2) := by
        rw [show nI (tp - 1) - 1 = nI (tp - 1 - 1) from nI_sub (b := 1) (by omega)]
        congr 1
      rw [hw, if_pos (show (8 : Int32) < nI q from nI_lt (a := 8) (by omega) (by omega)), if_neg n12, e1, e2, a218_17, l_226 (by omega), a218_17, l_226 (by omega), zA_eq]
      have hr'' := ih (i + 1) fu (tp - 1) (upd v (tp - 2) (opM (nI q) (v (tp - 2)) (v (tp - 1)))) (by omega) (by omega) (by rw [← hw]; exact hr') (by omega)
      have fin : ∀ r : Int32, r = opM (nI q) (v (tp - 2)) (v (tp - 1)) → (sI (laz Θ (uA S 226 v) ω) (gI Θ) (gb Θ + 226) (nI (tp - 2)) r fun ω => L_X11_holdsLine_20 Θ fu (gb Θ + 218) (nI (tp - 1)) (nI (4 * l + 306)) (nI i + 1) ω n) = some (.inl (some (.int (if tp' = 0 ∨ v' 0 = 1 then 1 else 0)), laz Θ (uA S 226 v') ω, n)) := by
        intro r e
        rw [s_226 (by omega), uA_uA, zA_eq, nI_1, e]
        exact hr''
      generalize v (tp - 2) = x at fin ⊢
      generalize v (tp - 1) = y at fin ⊢
      unfold opM at fin
      by_cases c9 : nI q = 9
      · have n10 : ¬ nI q = 10 := by rw [c9]; decide
        have n11 : ¬ nI q = 11 := by rw [c9]; decide
        have n13 : ¬ nI q = 13 := by rw [c9]; decide
        rw [if_neg n10, if_neg n11, if_neg n13]
        have f1 := fin (x + y) (by rw [if_pos c9])
        by_cases cz : x + y ≤ 0
        · rw [if_pos cz, a218_17, if_pos c9]; exact f1
        · rw [if_neg cz, a218_17, if_pos c9]; exact f1
      · by_cases c10 : nI q = 10
        · rw [if_pos c10]
          by_cases cz : y ≤ x
          · rw [if_pos cz, a218_17, if_neg c9, if_pos rfl]; exact fin 0 (by rw [if_neg c9, if_pos c10, if_pos cz])
          · rw [if_neg cz, a218_17, if_neg c9, if_neg (by decide)]; exact fin 1 (by rw [if_neg c9, if_pos c10, if_neg cz])
        · rw [if_neg c10]
          by_cases c11 : nI q = 11
          · rw [if_pos c11]
            by_cases cz : x ≤ y
            · rw [if_pos cz, a218_17, if_neg c9, if_pos rfl]; exact fin 0 (by rw [if_neg c9, if_neg c10, if_pos c11, if_pos cz])
            · rw [if_neg cz, a218_17, if_neg c9, if_neg (by decide)]; exact fin 1 (by rw [if_neg c9, if_neg c10, if_pos c11, if_neg cz])
          · rw [if_neg c11]
            by_cases c13 : nI q = 13
            · rw [if_pos c13]
              by_cases cz : x + y = 2
              · rw [if_pos cz, a218_17, if_neg c9, if_neg (by decide)]; exact fin 1 (by rw [if_neg c9, if_neg c10, if_neg c11, if_pos c13, if_pos cz])
              · rw [if_neg cz, a218_17, if_neg c9, if_pos rfl]; exact fin 0 (by rw [if_neg c9, if_neg c10, if_neg c11, if_pos c13, if_neg cz])
            · rw [if_neg c13]
              by_cases cz : x + y ≤ 0
              · rw [if_pos cz, a218_17, if_neg c9, if_pos rfl]; exact fin 0 (by rw [if_neg c9, if_neg c10, if_neg c11, if_neg c13, if_pos cz])
              · rw [if_neg cz, a218_17, if_neg c9, if_neg (by decide)]; exact fin 1 (by rw [if_neg c9, if_neg c10, if_neg c11, if_neg c13, if_neg cz])
theorem m_holdsLine {p l : Nat} {t nv kn dd : Int32} {lw : LW} (hp : p < 8) (h21 : zF S 218 21 = nI p) (h22 : zF S 218 22 = t) (h19 : zF S 218 19 = nv) (h20 : zF S 218 20 = kn) (h18 : zF S 218 18 = dd) (hM : LawM (zA S 219) lw) (hF : FB (fcS (zA S 219) p t nv kn dd)) (hl : l < lw.1) (v : Nat → Int32) : ∃ v', F_X11_holdsLine Θ (gb Θ + 218) (nI l) (laz Θ (uA S 226 v) ω) n = some (.inl (some (.int (if lw.2.2.2 l (fcS (zA S 219) p t nv kn dd) = true then 1 else 0)), laz Θ (uA S 226 v') ω, n)) := by
  obtain ⟨m1, m2, m3, m4, m5⟩ := hM
  obtain ⟨a1, a2, a3, a4, i, e, a5, a6, a7, a8, a9⟩ := m5 l hl
  obtain ⟨v', tp, hr, hv⟩ := a9 _ hF v
  refine ⟨v', ?_⟩
  unfold F_X11_holdsLine
  have x1 : (306 : Int32) + 4 * nI l = nI (4 * l + 306) := by
    show nI 306 + nI 4 * nI l = _
    rw [nI_mul, nI_add]; congr 1; omega
  have x2 : nI (4 * l + 306) + 2 = nI (4 * l + 308) := nI_add _ 2
  rw [a218_1, x1, x2, l_219 (by omega), zA_ne _ _ (show 219 ≠ 226 by decide), a5]
  have := m_run (Θ := Θ) (ω := ω) (n := n) hp h21 h22 h19 h20 h18 (by omega) a6 a8 (e - i) i 5000 0 v (by omega) (by omega) hr (by omega)
  refine this.trans ?_
  by_cases z : tp = 0 ∨ v' 0 = 1
  · rw [if_pos z, if_pos (hv.mp z)]
  · rw [if_neg z, if_neg (fun y => z (hv.mpr y))]
theorem m_sumOf_L {p : Nat} {t nv kn dd kd : Int32} {lw : LW} (hp : p < 8) (h21 : zF S 218 21 = nI p) (h22 : zF S 218 22 = t) (h19 : zF S 218 19 = nv) (h20 : zF S 218 20 = kn) (h18 : zF S 218 18 = dd) (hM : LawM (zA S 219) lw) (h3 : zA S 219 3 = 1) (hF : FB (fcS (zA S 219) p t nv kn dd)) : ∀ (k l fu : Nat) (a : Int32) (v : Nat → Int32), l + k = lw.1 → k < fu → ∃ v', L_X11_sumOf_4 Θ fu (gb Θ + 218) kd a (nI l) (laz Θ (uA S 226 v) ω) n = some (.inl (some (.int (a + sumK lw kd (fcS (zA S 219) p t nv kn dd) k l)), laz Θ (uA S 226 v') ω, n)) := by
  have hM' := hM
  obtain ⟨m1, m2, m3, m4, m5⟩ := hM
  have e5 := m4 h3
  intro k
  induction k with
  | zero =>
    intro l fu a v h1 h2
    obtain ⟨fu, rfl⟩ : ∃ g, fu = g + 1 := ⟨fu - 1, by omega⟩
    refine ⟨v, ?_⟩
    unfold L_X11_sumOf_4 B_X11_sumOf_4 J_X11_sumOf_73
    rw [a218_1, lI_lit, l_219 (by decide), zA_ne _ _ (show 219 ≠ 226 by decide), show zA S 219 3 = 1 from h3, if_pos rfl, a218_1, lI_lit, l_219 (by decide), zA_ne _ _ (show 219 ≠ 226 by decide), show zA S 219 305 = nI lw.1 from e5, if_pos (nI_le (by omega) (by omega))]
    simp only [sumK, Int32.add_zero]
  | succ k ih =>
    intro l fu a v h1 h2
    obtain ⟨fu, rfl⟩ : ∃ g, fu = g + 1 := ⟨fu - 1, by omega⟩
    obtain ⟨a1, a2, a3, a4, _⟩ := m5 l (by omega)
    have x1 : (306 : Int32) + 4 * nI l = nI (4 * l + 306) := by
      show nI 306 + nI 4 * nI l = _
      rw [nI_mul, nI_add]; congr 1; omega
    have x2 : nI (4 * l + 306) + 1 = nI (4 * l + 307) := nI_add _ 1
    have q0 : sumK lw kd (fcS (zA S 219) p t nv kn dd) (k + 1) l = (if lw.2.1 l = kd ∧ lw.2.2.2 l (fcS (zA S 219) p t nv kn dd) = true then lw.2.2.1 l else 0) + sumK lw kd (fcS (zA S 219) p t nv kn dd) k (l + 1) := rfl
    have pre : ∀ r, (L_X11_sumOf_4 Θ (fu + 1) (gb Θ + 218) kd a (nI l) (laz Θ (uA S 226 v) ω) n = r ↔ (if lw.2.1 l = kd then cO (laz Θ (uA S 226 v) ω) (gb Θ + 218) 11 (kI (F_X11_holdsLine Θ (gb Θ + 218) (nI l) (laz Θ (uA S 226 v) ω) n) (fun x10 ω n => if x10 = 0 then L_X11_sumOf_4 Θ fu (gb Θ + 218) kd a (nI l + 1) ω n else (rA ω (gb Θ + 218) 11 1 (fun a12 => lI ω (gI Θ) a12 (nI (4 * l + 307)) (fun x13 => L_X11_sumOf_4 Θ fu (gb Θ + 218) kd (a + x13) (nI l + 1) ω n))))) else L_X11_sumOf_4 Θ fu (gb Θ + 218) kd a (nI l + 1) (laz Θ (uA S 226 v) ω) n) = r) := by
      intro r
      rw [show L_X11_sumOf_4 Θ (fu + 1) (gb Θ + 218) kd a (nI l) (laz Θ (uA S 226 v) ω) n = B_X11_sumOf_4 Θ (L_X11_sumOf_4 Θ fu) (gb Θ + 218) kd a (nI l) (laz Θ (uA S 226 v) ω) n from rfl]
      unfold B_X11_sumOf_4 J_X11_sumOf_67
      rw [a218_1, lI_lit, l_219 (by decide), zA_ne _ _ (show 219 ≠ 226 by decide), show zA S 219 3 = 1 from h3, if_pos rfl, a218_1, lI_lit, l_219 (by decide), zA_ne _ _ (show 219 ≠ 226 by decide), show zA S 219 305 = nI lw.1 from e5, if_neg (nI_ge (by omega) (by omega)), a218_1, x1, x2, l_219 (by omega), zA_ne _ _ (show 219 ≠ 226 by decide), a1]
    by_cases z : lw.2.1 l = kd
    · obtain ⟨v1, ev⟩ := m_holdsLine (Θ := Θ) (ω := ω) (n := n) hp h21 h22 h19 h20 h18 hM' hF (show l < lw.1 by omega) v
      by_cases y : lw.2.2.2 l (fcS (zA S 219) p t nv kn dd) = true
      · obtain ⟨v', e⟩ := ih (l + 1) fu (a + lw.2.2.1 l) v1 (by omega) (by omega)
        refine ⟨v', (pre _).mpr ?_⟩
        rw [if_pos z, d218, ev, if_pos y, kI_v, if_neg (by decide), a218_1, l_219 (by omega), zA_ne _ _ (show 219 ≠ 226 by decide), a2, nI_1, e, q0, if_pos ⟨z, y⟩, Int32.add_assoc]
      · obtain ⟨v', e⟩ := ih (l + 1) fu a v1 (by omega) (by omega)
        refine ⟨v', (pre _).mpr ?_⟩
        rw [if_pos z, d218, ev, if_neg y, kI_v, if_pos rfl, nI_1, e, q0, if_neg (fun h => y h.2), Int32.zero_add]
    · obtain ⟨v', e⟩ := ih (l + 1) fu a v (by omega) (by omega)
      refine ⟨v', (pre _).mpr ?_⟩
      rw [if_neg z, nI_1, e, q0, if_neg (fun h => z h.1), Int32.zero_add]
theorem m_sumOf {p : Nat} {t nv kn dd : Int32} {lw : LW} (hp : p < 8) (h21 : zF S 218 21 = nI p) (h22 : zF S 218 22 = t) (h19 : zF S 218 19 = nv) (h20 : zF S 218 20 = kn) (h18 : zF S 218 18 = dd) (hM : LawM (zA S 219) lw) (hF : FB (fcS (zA S 219) p t nv kn dd)) (kd : Int32) (v : Nat → Int32) : ∃ v', F_X11_sumOf Θ (gb Θ + 218) kd (laz Θ (uA S 226 v) ω) n = some (.inl (some (.int (sumK lw kd (fcS (zA S 219) p t nv kn dd) lw.1 0)), laz Θ (uA S 226 v') ω, n)) := by
  rcases hM.2.1 with h3 | h3
  · refine ⟨v, ?_⟩
    rw [hM.2.2.1 h3]
    show L_X11_sumOf_4 Θ (4999 + 1) (gb Θ + 218) kd 0 0 (laz Θ (uA S 226 v) ω) n = _
    unfold L_X11_sumOf_4 B_X11_sumOf_4 J_X11_sumOf_73
    rw [a218_1, lI_lit, l_219 (by decide), zA_ne _ _ (show 219 ≠ 226 by decide), show zA S 219 3 = 0 from h3, if_neg (by decide)]
    rfl
  · obtain ⟨v', e⟩ := m_sumOf_L (Θ := Θ) (ω := ω) (n := n) (kd := kd) hp h21 h22 h19 h20 h18 hM h3 hF lw.1 0 5000 0 v (by omega) (by have := hM.1; omega)
    refine ⟨v', ?_⟩
    rw [Int32.zero_add] at e
    exact e
/-- what a prop frights by; its scratch: prop, tense, values -/
theorem m_frightsBy {p : Nat} {t nv kn dd : Int32} {lw : LW} (hp : p < 8) (h19 : zF S 218 19 = nv) (h20 : zF S 218 20 = kn) (h18 : zF S 218 18 = dd) (hM : LawM (zA S 219) lw) (hF : FB (fcS (zA S 219) p t nv kn dd)) : ∃ v', F_X11_frightsBy Θ (gb Θ + 218) (nI p) t (laz Θ S ω) n = some (.inl (some (.int (frS lw (fcS (zA S 219) p t nv kn dd))), laz Θ (uA (uF (uF S 218 21 (nI p)) 218 22 t) 226 v') ω, n)) := by
  let S1 := uF (uF S 218 21 (nI p)) 218 22 t
  obtain ⟨v1, e1⟩ := m_sumOf (Θ := Θ) (S := S1) (ω := ω) (n := n) hp rfl rfl h19 h20 h18 hM hF 0 (zA S 226)
  obtain ⟨v2, e2⟩ := m_sumOf (Θ := Θ) (S := S1) (ω := ω) (n := n) hp rfl rfl h19 h20 h18 hM hF 1 v1
  refine ⟨v2, ?_⟩
  unfold F_X11_frightsBy
  rw [b218_21, b218_22, d218, m_ofProp1 hp, kI_v, d218, m_ofProp2 hp, kI_v, d218]
  have es : uA S1 226 (zA S 226) = S1 := uA_self S1 226
  rw [es] at e1
  rw [e1, kI_v, d218, e2, kI_v]
  rfl
theorem m_wearsBy {p : Nat} {t nv kn dd : Int32} {lw : LW} (hp : p < 8) (h19 : zF S 218 19 = nv) (h20 : zF S 218 20 = kn) (h18 : zF S 218 18 = dd) (hM : LawM (zA S 219) lw) (hF : FB (fcS (zA S 219) p t nv kn dd)) : ∃ v', F_X11_wearsBy Θ (gb Θ + 218) (nI p) t (laz Θ S ω) n = some (.inl (some (.int (weS lw (fcS (zA S 219) p t nv kn dd))), laz Θ (uA (uF (uF S 218 21 (nI p)) 218 22 t) 226 v') ω, n)) := by
  let S1 := uF (uF S 218 21 (nI p)) 218 22 t
  obtain ⟨v1, e1⟩ := m_sumOf (Θ := Θ) (S := S1) (ω := ω) (n := n) hp rfl rfl h19 h20 h18 hM hF 2 (zA S 226)
  refine ⟨v1, ?_⟩
  unfold F_X11_wearsBy
  have es : uA S1 226 (zA S 226) = S1 := uA_self S1 226
  rw [es] at e1
  rw [b218_21, b218_22, d218, e1, kI_v]
  rfl
end ML
