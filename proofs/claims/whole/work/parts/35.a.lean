/-! the law on the class's side -/
theorem rnX_ge (cf f : Nat → Int32) : ∀ (k : Nat) (q : Nat × Int32), q.1 + k ≤ (rnX cf f k q).1 := by
  intro k
  induction k with
  | zero => intro q; exact Nat.le_refl _
  | succ k ih =>
    intro q
    have h := ih (s1X cf f q)
    have g : q.1 + 1 ≤ (s1X cf f q).1 := by
      unfold s1X
      split
      · exact Nat.le_refl _
      · split
        · exact Nat.le_refl _
        · split
          · exact Nat.le_refl _
          · split
            · show q.1 + 1 ≤ q.1 + 2; omega
            · show q.1 + 1 ≤ q.1 + 3 + _; omega
    unfold rnX
    omega
theorem RnX.succ {cf : Nat → Int32} {lc : Nat} {f : Nat → Int32} {k : Nat} {q q' : Nat × Int32} : RnX cf lc f (k + 1) q q' ↔ o1X cf lc q.1 ∧ RnX cf lc f k (s1X cf f q) q' := by
  constructor
  · rintro ⟨h1, h2⟩
    exact ⟨h2 0 (by omega), h1, fun j hj => h2 (j + 1) (by omega)⟩
  · rintro ⟨h0, h1, h2⟩
    refine ⟨h1, fun j hj => ?_⟩
    cases j with
    | zero => exact h0
    | succ j => exact h2 j (by omega)
theorem xor_m1 : ∀ q, q < 8 → (nI q ^^^ -1) < 0 ∧ (nI q ^^^ -1) ^^^ -1 = nI q := by decide +kernel
theorem lit_ne {k : Nat} (hk : k < 8) : nI k = 0 ∨ nI k = 1 ∨ nI k = 2 ∨ nI k = 3 ∨ nI k = 4 ∨ nI k = 5 ∨ nI k = 6 ∨ nI k = 7 := by
  have q : k = 0 ∨ k = 1 ∨ k = 2 ∨ k = 3 ∨ k = 4 ∨ k = 5 ∨ k = 6 ∨ k = 7 := by omega
  rcases q with rfl | rfl | rfl | rfl | rfl | rfl | rfl | rfl <;> decide
/-- the cells of a law -/
def LCell (Θ : GP) (ω : OW) (la ac lc : Nat) (cf : Nat → Int32) : Prop := (∃ n t a b c, ω la = some (.inr (2, [.int n, .int t, .ref a, .ref b, .ref c, .ref ac]))) ∧ notOurs Θ la ∧ ω ac = some (.inl (gI Θ, lc, .inl cf)) ∧ notOurs Θ ac ∧ lc ≤ 408
section XL
variable {Θ : GP} {S : PZ} {ω : OW} {n : Nat} {la ac lc c : Nat} {cf : Nat → Int32}
theorem x_parts (hL : LCell Θ ω la ac lc cf) (hk : kdz c = 20) (ha : alz c = 8) (k20 : Nat → Nat → Int32 → Int32 → Int32 → OW → Nat → RO) {E st sp : Int32} : ∀ (k i last fu : Nat) (a : Int32), i + k = last + 1 → last < lc → k < fu → (∀ j, j < k → ∃ q, q < 8 ∧ (cf (i + j) = nI q ∨ cf (i + j) = (nI q ^^^ -1))) →
    L_X2_holds_149 Θ k20 fu la (gb Θ + c) E st (nI i) sp a (nI last) (laz Θ S ω) n = k20 la (gb Θ + c) E ((st <<< ((1 : Int32) &&& 31)) ||| (if sp = 4 then (if 0 ≤ smX cf (zA S c) k i a then 0 else 1) else (if smX cf (zA S c) k i a ≤ 0 then 0 else 1))) (nI (last + 1)) (laz Θ S ω) n := by
  obtain ⟨⟨_, _, _, _, _, h1⟩, h2, h3, h4, h5⟩ := hL
  intro k
  induction k with
  | zero =>
    intro i last fu a e1 e2 e3 e4
    obtain ⟨fu, rfl⟩ : ∃ g, fu = g + 1 := ⟨fu - 1, by omega⟩
    unfold L_X2_holds_149 B_X2_holds_149 J_X2_holds_224 J_X2_holds_240 J_X2_holds_243
    rw [if_pos (nI_lt (by omega) (by omega)), show i = last + 1 by omega]
    unfold smX
    by_cases c4 : sp = 4
    · rw [if_pos c4, if_pos c4]
      by_cases c5 : 0 ≤ a
      · rw [if_pos c5, if_pos c5, if_pos rfl]
      · rw [if_neg c5, if_neg c5, if_neg (by decide)]
    · rw [if_neg c4, if_neg c4]
      by_cases c5 : a ≤ 0
      · rw [if_pos c5, if_pos c5, if_pos rfl]
      · rw [if_neg c5, if_neg c5, if_neg (by decide)]
  | succ k ih =>
    intro i last fu a e1 e2 e3 e4
    obtain ⟨fu, rfl⟩ : ∃ g, fu = g + 1 := ⟨fu - 1, by omega⟩
    obtain ⟨q, hq, hv⟩ := e4 0 (by omega)
    rw [Nat.add_zero] at hv
    have e4' : ∀ j, j < k → ∃ q, q < 8 ∧ (cf (i + 1 + j) = nI q ∨ cf (i + 1 + j) = (nI q ^^^ -1)) := by
      intro j hj
      have := e4 (j + 1) (by omega)
      rw [show i + (j + 1) = i + 1 + j by omega] at this
      exact this
    unfold L_X2_holds_149 B_X2_holds_149 J_X2_holds_186
    rw [if_neg (nI_nlt (by omega) (by omega)), o_rA h1 h2 rfl, o_lI h3 h4 (by omega) (by omega)]
    rcases hv with hv | hv
    · rw [hv, if_neg (nI_pos (by omega)), z_lI hk (by omega) (by omega), nI_1, ih (i + 1) last fu _ (by omega) e2 (by omega) e4']
      simp only [smX, sgX, hv, if_neg (show ¬ nI q < 0 from nI_pos (by omega)), nI_clamp (show q < 2 ^ 31 by omega)]
    · have hx := xor_m1 q hq
      rw [hv, if_pos hx.1, hx.2, z_lI hk (by omega) (by omega), nI_1, ih (i + 1) last fu _ (by omega) e2 (by omega) e4']
      simp only [smX, sgX, hv, if_pos hx.1, hx.2, nI_clamp (show q < 2 ^ 31 by omega)]
theorem x_run (hL : LCell Θ ω la ac lc cf) (hk : kdz c = 20) (ha : alz c = 8) {E : Nat} (hE : E ≤ lc) {st' : Int32} : ∀ (k i fu : Nat) (st : Int32), RnX cf lc (zA S c) k (i, st) (E, st') → k < fu → L_X2_holds_20 Θ fu la (gb Θ + c) (nI E) st (nI i) (laz Θ S ω) n = some (.inl (some (.int (if st' &&& 1 = 1 then 1 else 0)), laz Θ S ω, n)) := by
  have hL' := hL
  obtain ⟨⟨_, _, _, _, _, h1⟩, h2, h3, h4, h5⟩ := hL
  intro k
  induction k with
  | zero =>
    intro i fu st hr e3
    obtain ⟨fu, rfl⟩ : ∃ g, fu = g + 1 := ⟨fu - 1, by omega⟩
    obtain ⟨he, _⟩ := hr
    cases he
    unfold L_X2_holds_20 B_X2_holds_20 J_X2_holds_259
    rw [if_pos (nI_le (Nat.le_refl _) (by omega))]
    split
    · rw [bz_1]
    · rw [bz_0]
  | succ k ih =>
    intro i fu st hr e3
    obtain ⟨fu, rfl⟩ : ∃ g, fu = g + 1 := ⟨fu - 1, by omega⟩
    obtain ⟨ho, hr'⟩ := RnX.succ.mp hr
    have hge := rnX_ge cf (zA S c) (k + 1) (i, st)
    rw [hr.1] at hge
    have hi : i < E := by show i + 1 ≤ E; have : i + (k + 1) ≤ E := hge; omega
    unfold L_X2_holds_20 B_X2_holds_20
    rw [if_neg (nI_ge hi (by omega)), o_rA h1 h2 rfl, o_lI h3 h4 (by omega) (by omega)]
    obtain ⟨_, ho⟩ := ho
    unfold s1X at hr'
    by_cases z0 : cf i = 0
    · rw [if_pos z0, nI_1]
      rw [if_pos z0] at hr'
      exact ih (i + 1) fu _ hr' (by omega)
    rw [if_neg z0]
    rw [if_neg z0] at hr'
    by_cases z1 : cf i = 1
    · rw [if_pos z1, nI_1]
      rw [if_pos z1] at hr'
      exact ih (i + 1) fu _ hr' (by omega)
    rw [if_neg z1]
    rw [if_neg z1] at hr'
    by_cases z2 : cf i = 2
    · rw [if_pos z2, nI_1]
      rw [if_pos z2] at hr'
      exact ih (i + 1) fu _ hr' (by omega)
    rw [if_neg z2]
    rw [if_neg z2] at hr'
    rcases ho with ho | ho | ho | ⟨z3, ho1, q, hq, ho2⟩ | ⟨z45, q, ho1, ho2, ho3⟩
    · exact absurd ho z0
    · exact absurd ho z1
    · exact absurd ho z2
    · rw [if_pos z3] at hr'
      rw [if_pos z3, o_rA h1 h2 rfl, nI_1, o_lI h3 h4 (by omega) (by omega), ho2, z_lI hk (by omega) (by omega), nI_1]
      have hr'' : RnX cf lc (zA S c) k (i + 2, (st <<< ((1 : Int32) &&& 31)) ||| zA S c q) (E, st') := by
        have : (cf (i + 1)).toNatClampNeg = q := by rw [ho2]; exact nI_clamp (by omega)
        rw [← this]
        exact hr'
      exact ih (i + 2) fu _ hr'' (by omega)
    · have z3 : ¬ cf i = 3 := by rcases z45 with h | h <;> rw [h] <;> decide
      rw [if_neg z3] at hr'
      have eq : (cf (i + 2)).toNatClampNeg = q := by rw [ho1]; exact nI_clamp (by omega)
      rw [if_neg z3, o_rA h1 h2 rfl, nI_1, o_lI h3 h4 (by omega) (by omega), o_rA h1 h2 rfl, nI_1, o_lI h3 h4 (by omega) (by omega)]
      rw [show i + 1 + 1 = i + 2 by omega, ho1, nI_add, show nI (i + 1) + 2 = nI (i + 3) from nI_add (i + 1) 2]
      rw [x_parts hL' hk ha _ q (i + 3) (i + 2 + q) 5000 _ (by omega) (by omega) (by omega) ho3]
      have hr'' : RnX cf lc (zA S c) k (i + 3 + q, (st <<< ((1 : Int32) &&& 31)) ||| (if cf i = 4 then (if 0 ≤ smX cf (zA S c) q (i + 3) (cf (i + 1)) then 0 else 1) else (if smX cf (zA S c) q (i + 3) (cf (i + 1)) ≤ 0 then 0 else 1))) (E, st') := by
        rw [← eq]
        exact hr'
      have := ih (i + 3 + q) fu _ hr'' (by omega)
      rw [show i + 2 + q + 1 = i + 3 + q by omega]
      exact this
end XL
/-- facts of the class in the row c -/
def fX (S : PZ) (c : Nat) : Nat → Int32 := zA S c
section XF
variable {Θ : GP} {S : PZ} {ω : OW} {n : Nat} {la c : Nat} {told : Int32} {lw : LW}
theorem x_holds (hL : LawX Θ ω la told lw) (hk : kdz c = 20) (ha : alz c = 8) (hf : FB (zA S c)) {l : Nat} (hl : l < lw.1) : F_X2_holds Θ la (nI l) (gb Θ + c) (laz Θ S ω) n = some (.inl (some (.int (if lw.2.2.2 l (zA S c) = true then 1 else 0)), laz Θ S ω, n)) := by
  obtain ⟨ak, aa, as, ac, lk, ll, ls, lc, sf, cf, ⟨e1, e2, e3, e4, e5⟩, ⟨n1, n2, n3, n4, n5⟩, ⟨b1, b2, b3, b4, b5, b6, b7⟩, hv⟩ := hL
  obtain ⟨i, e, h1, h2, h3, h4, h5⟩ := hv l hl
  obtain ⟨k, st, hk4, hr, hst⟩ := h5 (zA S c) hf
  unfold F_X2_holds
  rw [o_rA e1 n1 rfl, nI_1, o_lI e4 n4 (by omega) (by omega), o_rA e1 n1 rfl, o_lI e4 n4 (by omega) (by omega), h1, h2, x_run (E := e) ⟨⟨_, _, _, _, _, e1⟩, n1, e5, n5, b4⟩ hk ha h4 k i 5000 1 hr (by omega)]
  by_cases z : st &&& 1 = 1
  · rw [if_pos z, if_pos (hst.mp z)]
  · rw [if_neg z, if_neg (fun y => z (hst.mpr y))]
theorem x_fr_L (hL : LawX Θ ω la told lw) (h12 : lw.1 ≤ 12) (hkd : ∀ l, l < lw.1 → lw.2.1 l = 0 ∨ lw.2.1 l = 1 ∨ lw.2.1 l = 2) (hk : kdz c = 20) (ha : alz c = 8) (hf : FB (zA S c)) : ∀ (k l fu : Nat) (a : Int32), l + k = lw.1 → k < fu → L_X2_frightsBy_13 Θ fu la (gb Θ + c) a (nI l) (laz Θ S ω) n = some (.inl (some (.int (if 0 < (a + sumK lw 0 (zA S c) k l) - sumK lw 1 (zA S c) k l then (a + sumK lw 0 (zA S c) k l) - sumK lw 1 (zA S c) k l else 0)), laz Θ S ω, n)) := by
  have hL' := hL
  obtain ⟨ak, aa, as, ac, lk, ll, ls, lc, sf, cf, ⟨e1, e2, e3, e4, e5⟩, ⟨n1, n2, n3, n4, n5⟩, ⟨b1, b2, b3, b4, b5, b6, b7⟩, hv⟩ := hL
  intro k
  induction k with
  | zero =>
    intro l fu a h1 h2
    obtain ⟨fu, rfl⟩ : ∃ g, fu = g + 1 := ⟨fu - 1, by omega⟩
    unfold L_X2_frightsBy_13 B_X2_frightsBy_13
    rw [o_rI e1 n1 rfl, if_pos (nI_le (by omega) (by omega))]
    simp only [sumK, Int32.add_zero, Int32.sub_zero]
  | succ k ih =>
    intro l fu a h1 h2
    obtain ⟨fu, rfl⟩ : ∃ g, fu = g + 1 := ⟨fu - 1, by omega⟩
    unfold L_X2_frightsBy_13 B_X2_frightsBy_13 J_X2_frightsBy_66 J_X2_frightsBy_68
    rw [o_rI e1 n1 rfl, if_neg (nI_ge (by omega) (by omega)), o_rA e1 n1 rfl, o_lI e2 n2 (by omega) (by omega)]
    have es : ∀ (t u s0 s1 : Int32), t = u → some (Sum.inl (some (Value.int (if 0 < t then t else 0)), laz Θ S ω, n)) = (some (Sum.inl (some (Value.int (if 0 < u then u else 0)), laz Θ S ω, n)) : RO) := by
      intro t u _ _ h; rw [h]
    rcases hkd l (by omega) with z | z | z
    · rw [if_neg (by rw [z]; decide), o_cO e1 n1, x_holds hL' hk ha hf (by omega), kI_v]
      by_cases y : lw.2.2.2 l (zA S c) = true
      · rw [if_pos y, if_neg (by decide), o_rA e1 n1 rfl, o_lI e2 n2 (by omega) (by omega), if_pos z, o_rA e1 n1 rfl, o_lI e3 n3 (by omega) (by omega), nI_1, ih (l + 1) fu _ (by omega) (by omega)]
        refine es _ _ 0 0 ?_
        have q0 : sumK lw 0 (zA S c) (k + 1) l = lw.2.2.1 l + sumK lw 0 (zA S c) k (l + 1) := by
          show (if lw.2.1 l = 0 ∧ lw.2.2.2 l (zA S c) = true then lw.2.2.1 l else 0) + _ = _
          rw [if_pos ⟨z, y⟩]
        have q1 : sumK lw 1 (zA S c) (k + 1) l = sumK lw 1 (zA S c) k (l + 1) := by
          show (if lw.2.1 l = 1 ∧ lw.2.2.2 l (zA S c) = true then lw.2.2.1 l else 0) + _ = _
          rw [if_neg (by rw [z]; rintro ⟨h, _⟩; exact absurd h (by decide)), Int32.zero_add]
        rw [q0, q1, Int32.add_assoc]
      · rw [if_neg y, if_pos rfl, nI_1, ih (l + 1) fu _ (by omega) (by omega)]
        refine es _ _ 0 0 ?_
        have q0 : ∀ kd, sumK lw kd (zA S c) (k + 1) l = sumK lw kd (zA S c) k (l + 1) := by
          intro kd
          show (if lw.2.1 l = kd ∧ lw.2.2.2 l (zA S c) = true then lw.2.2.1 l else 0) + _ = _
          rw [if_neg (fun h => y h.2), Int32.zero_add]
        rw [q0, q0]
    · rw [if_neg (by rw [z]; decide), o_cO e1 n1, x_holds hL' hk ha hf (by omega), kI_v]
      by_cases y : lw.2.2.2 l (zA S c) = true
      · rw [if_pos y, if_neg (by decide), o_rA e1 n1 rfl, o_lI e2 n2 (by omega) (by omega), if_neg (by rw [z]; decide), o_rA e1 n1 rfl, o_lI e3 n3 (by omega) (by omega), nI_1, ih (l + 1) fu _ (by omega) (by omega)]
        refine es _ _ 0 0 ?_
        have q0 : sumK lw 0 (zA S c) (k + 1) l = sumK lw 0 (zA S c) k (l + 1) := by
          show (if lw.2.1 l = 0 ∧ lw.2.2.2 l (zA S c) = true then lw.2.2.1 l else 0) + _ = _
          rw [if_neg (by rw [z]; rintro ⟨h, _⟩; exact absurd h (by decide)), Int32.zero_add]
        have q1 : sumK lw 1 (zA S c) (k + 1) l = lw.2.2.1 l + sumK lw 1 (zA S c) k (l + 1) := by
          show (if lw.2.1 l = 1 ∧ lw.2.2.2 l (zA S c) = true then lw.2.2.1 l else 0) + _ = _
          rw [if_pos ⟨z, y⟩]
        rw [q0, q1]
        grind
      · rw [if_neg y, if_pos rfl, nI_1, ih (l + 1) fu _ (by omega) (by omega)]
        refine es _ _ 0 0 ?_
        have q0 : ∀ kd, sumK lw kd (zA S c) (k + 1) l = sumK lw kd (zA S c) k (l + 1) := by
          intro kd
          show (if lw.2.1 l = kd ∧ lw.2.2.2 l (zA S c) = true then lw.2.2.1 l else 0) + _ = _
          rw [if_neg (fun h => y h.2), Int32.zero_add]
        rw [q0, q0]
    · rw [if_pos z, nI_1, ih (l + 1) fu _ (by omega) (by omega)]
      refine es _ _ 0 0 ?_
      have q0 : ∀ kd, kd ≠ 2 → sumK lw kd (zA S c) (k + 1) l = sumK lw kd (zA S c) k (l + 1) := by
        intro kd hd
        show (if lw.2.1 l = kd ∧ lw.2.2.2 l (zA S c) = true then lw.2.2.1 l else 0) + _ = _
        rw [if_neg (by rw [z]; rintro ⟨h, _⟩; exact hd h.symm), Int32.zero_add]
      rw [q0 0 (by decide), q0 1 (by decide)]
theorem x_frightsBy (hL : LawX Θ ω la told lw) (h12 : lw.1 ≤ 12) (hkd : ∀ l, l < lw.1 → lw.2.1 l = 0 ∨ lw.2.1 l = 1 ∨ lw.2.1 l = 2) (hk : kdz c = 20) (ha : alz c = 8) (hf : FB (zA S c)) : F_X2_frightsBy Θ la (gb Θ + c) (laz Θ S ω) n = some (.inl (some (.int (frS lw (zA S c))), laz Θ S ω, n)) := by
  unfold F_X2_frightsBy
  rw [lI_lit, z_lI hk (by rw [ha]; decide) (by omega), lI_lit, z_lI hk (by rw [ha]; decide) (by omega)]
  exact x_fr_L hL h12 hkd hk ha hf lw.1 0 5000 _ (by omega) (by omega)
theorem x_we_L (hL : LawX Θ ω la told lw) (h12 : lw.1 ≤ 12) (hk : kdz c = 20) (ha : alz c = 8) (hf : FB (zA S c)) : ∀ (k l fu : Nat) (a : Int32), l + k = lw.1 → k < fu → L_X2_wearsBy_4 Θ fu la (gb Θ + c) a (nI l) (laz Θ S ω) n = some (.inl (some (.int (a + sumK lw 2 (zA S c) k l)), laz Θ S ω, n)) := by
  have hL' := hL
  obtain ⟨ak, aa, as, ac, lk, ll, ls, lc, sf, cf, ⟨e1, e2, e3, e4, e5⟩, ⟨n1, n2, n3, n4, n5⟩, ⟨b1, b2, b3, b4, b5, b6, b7⟩, hv⟩ := hL
  intro k
  induction k with
  | zero =>
    intro l fu a h1 h2
    obtain ⟨fu, rfl⟩ : ∃ g, fu = g + 1 := ⟨fu - 1, by omega⟩
    unfold L_X2_wearsBy_4 B_X2_wearsBy_4
    rw [o_rI e1 n1 rfl, if_pos (nI_le (by omega) (by omega))]
    simp only [sumK, Int32.add_zero]
  | succ k ih =>
    intro l fu a h1 h2
    obtain ⟨fu, rfl⟩ : ∃ g, fu = g + 1 := ⟨fu - 1, by omega⟩
    unfold L_X2_wearsBy_4 B_X2_wearsBy_4 J_X2_wearsBy_40
    have q0 : sumK lw 2 (zA S c) (k + 1) l = (if lw.2.1 l = 2 ∧ lw.2.2.2 l (zA S c) = true then lw.2.2.1 l else 0) + sumK lw 2 (zA S c) k (l + 1) := rfl
    rw [o_rI e1 n1 rfl, if_neg (nI_ge (by omega) (by omega)), o_rA e1 n1 rfl, o_lI e2 n2 (by omega) (by omega), q0]
    by_cases z : lw.2.1 l = 2
    · rw [if_pos z, o_cO e1 n1, x_holds hL' hk ha hf (by omega), kI_v]
      by_cases y : lw.2.2.2 l (zA S c) = true
      · rw [if_pos y, if_neg (by decide), o_rA e1 n1 rfl, o_lI e3 n3 (by omega) (by omega), nI_1, ih (l + 1) fu _ (by omega) (by omega), if_pos ⟨z, y⟩, Int32.add_assoc]
      · rw [if_neg y, if_pos rfl, nI_1, ih (l + 1) fu _ (by omega) (by omega), if_neg (fun h => y h.2), Int32.zero_add]
    · rw [if_neg z, nI_1, ih (l + 1) fu _ (by omega) (by omega), if_neg (fun h => z h.1), Int32.zero_add]
theorem x_wearsBy (hL : LawX Θ ω la told lw) (h12 : lw.1 ≤ 12) (hk : kdz c = 20) (ha : alz c = 8) (hf : FB (zA S c)) : F_X2_wearsBy Θ la (gb Θ + c) (laz Θ S ω) n = some (.inl (some (.int (weS lw (zA S c))), laz Θ S ω, n)) := x_we_L hL h12 hk ha hf lw.1 0 5000 _ (by omega) (by omega)
end XF
