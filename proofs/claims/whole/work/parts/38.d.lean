/-! usher: the class's way -/
theorem uF_comm (S : PZ) {k j k' j' : Nat} (v v' : Int32) (h : ¬ (k = k' ∧ j = j')) : uF (uF S k j v) k' j' v' = uF (uF S k' j' v') k j v := by
  apply Prod.ext
  · funext a b
    show (if a = k' ∧ b = j' then v' else if a = k ∧ b = j then v else S.1 a b) = (if a = k ∧ b = j then v else if a = k' ∧ b = j' then v' else S.1 a b)
    by_cases z : a = k' ∧ b = j'
    · rw [if_pos z, if_neg (fun u => h ⟨u.1.symm.trans z.1, u.2.symm.trans z.2⟩), if_pos z]
    · rw [if_neg z, if_neg z]
  · rfl
/-- S' is as S but for the ride 202 and the row 8 -/
def KH (S S' : PZ) : Prop := (∀ k j, k ≠ 202 → zF S' k j = zF S k j) ∧ (∀ k, ¬ (202 < k ∧ k < 208) → k ≠ 8 → zA S' k = zA S k) ∧ (∀ k j, zR S' k j = zR S k j) ∧ (∀ k, zL S' k = zL S k)
theorem KH.rf (S : PZ) : KH S S := ⟨fun _ _ _ => rfl, fun _ _ _ => rfl, fun _ _ => rfl, fun _ => rfl⟩
theorem KH.trans {S S' S'' : PZ} (h : KH S S') (g : KH S' S'') : KH S S'' := ⟨fun k j q => (g.1 k j q).trans (h.1 k j q), fun k a b => (g.2.1 k a b).trans (h.2.1 k a b), fun k j => (g.2.2.1 k j).trans (h.2.2.1 k j), fun k => (g.2.2.2 k).trans (h.2.2.2 k)⟩
theorem XL.kh {S S' : PZ} (h : XL 202 S S') : KH S S' := ⟨h.1, fun k a _ => h.2.1 k a, h.2.2.1, h.2.2.2⟩
theorem KH.nA {S S' : PZ} (h : KH S S') {f : Nat → Int32} : KH S (uA S' 8 f) := ⟨h.1, fun k a b => by rw [zA_ne _ _ b, h.2.1 k a b], h.2.2.1, h.2.2.2⟩
theorem KH.kp {S S' : PZ} (h : KH S S') : Kp S S' := by
  obtain ⟨h1, h2, h3, h4⟩ := h
  refine ⟨fun k j q => h1 k j ?_, fun k q => h2 k ?_ ?_, fun k j _ _ => h3 k j⟩
  · rintro rfl; simp [kpF] at q
  · rintro ⟨a, b⟩; simp [kpA] at q; omega
  · rintro rfl; simp [kpA] at q
theorem KH.idle {Θ : GP} {S S' : PZ} (h : KH S S') (hI : Idle Θ S) : Idle Θ S' := by
  obtain ⟨h1, h2, h3, h4⟩ := h
  obtain ⟨i1, i2, i3, i4⟩ := hI
  exact ⟨by rw [h3, h3]; exact i1, by rw [h2 216 (by omega) (by omega), h2 217 (by omega) (by omega), h2 200 (by omega) (by omega)]; exact i2, by rw [h1 218 23 (by omega)]; exact i3, by rw [h1 218 24 (by omega)]; exact i4⟩
theorem and1_0 (y : Int32) : (y &&& 1 = 0) ↔ ¬ bt y 0 = true := by
  rw [← and1_bt]
  constructor
  · intro h u; rw [h] at u; exact absurd u (by decide)
  · intro h; have := and1 y; rw [if_neg h] at this; exact this
theorem sh_bt {x : Int32} {t : Nat} (ht : t < 32) : bt (x >>> (nI t &&& 31)) 0 = bt x t := by
  rw [b_sshr t ht x (by decide), if_pos (by omega)]; rfl
section UX
variable {Θ : GP} {S S0 : PZ} {ω : OW} {n : Nat} {lw : LW} {a : Nat} {ch : Int32}
theorem RLd.nE {w : Nat → Int32} {tk : Nat → Int32} {es es' : Nat → Bool} (h : RLd Θ S ω w lw tk es) {v : Int32} (hv : ∀ p, p < 8 → (nI p = v ↔ es' p = true)) : RLd Θ (uF S 202 6 v) ω w lw tk es' := by
  obtain ⟨h1, h2, h3, h4, h5⟩ := h
  exact ⟨h1, by rw [zF_ne _ _ (by omega)]; exact h2, h3, h4, fun p hp => by rw [zF_eq]; exact hv p hp⟩
/-- lay, take one down, board, ease, ride -/
theorem x_choice (hC : Core Θ S ω) (hL : LawR Θ ω (zR S 14 17) (zA S 219) lw) (ha : a < cO' (zA S 219)) (tn : Int32) {v : Int32} {es : Nat → Bool} (hv : ∀ p, p < 8 → (nI p = v ↔ es p = true)) : ∃ S1 S2 S3 S4, F_X6_lay Θ (gb Θ + 202) (laz Θ S ω) n = some (.inl (none, laz Θ S1 ω, n)) ∧ F_X6_takeDown Θ (gb Θ + 202) tn (laz Θ S1 ω) n = some (.inl (none, laz Θ S2 ω, n)) ∧ F_X6_board Θ (gb Θ + 202) (nI a) (laz Θ S2 ω) n = some (.inl (none, laz Θ S3 ω, n)) ∧ F_X6_straightOn Θ (gb Θ + 202) (laz Θ (uF S3 202 6 v) ω) n = some (.inl (none, laz Θ S4 ω, n)) ∧ XL 202 S S4 ∧ zF S4 202 8 = rdT (zA S 219) lw a tn es := by
  have hR : isR 202 := Or.inl rfl
  have h6 := hC.O
  obtain ⟨x1, l1⟩ := x_laidN hC.1.1 hC.1.2.1 hL
  obtain ⟨g, e2, l2⟩ := x_takeDown (n := n) hC.1.1 l1 tn
  have l3 := l2.nE hv
  have x3 := (x1.nA (k := 203) (f := g) (by omega)).nF (j := 6) (v := v)
  obtain ⟨S3, S4, e3, e4, x4, l4, h8⟩ := x_rideT (n := n) hC x3 hL.2 l3 ha
  refine ⟨_, _, _, S4, x_lay hR, e2, x_board hR (by omega), ?_, x4, h8⟩
  have e5 := x_board (Θ := Θ) (ω := ω) (n := n) (S := uF (uA (uF (uA (uA S (202 + 1) (va_cpy (zA S 19) (zA S (202 + 1)) 0 0 10)) (202 + 2) (va_cpy (zA S 17) (zA S (202 + 2)) 0 0 8)) 202 6 (-1)) 203 g) 202 6 v) hR (show a < 6 by omega)
  rw [e5] at e3
  have e6 := congrArg (fun r : RO => match r with | some (.inl (_, v, _)) => v | _ => laz Θ S ω) e3
  have e6 : laz Θ _ ω = laz Θ S3 ω := e6
  rw [uF_comm _ _ _ (show ¬ (202 = 202 ∧ 6 = 3) by omega), uF_comm _ _ _ (show ¬ (202 = 202 ∧ 6 = 4) by omega), uF_comm _ _ _ (show ¬ (202 = 202 ∧ 6 = 5) by omega)] at e6
  rw [← e4, ← e6]
  rfl
noncomputable def hcU (w : Nat → Int32) (lw : LW) (a t e : Nat) : Bool := hrT w lw a (ciU t) (ciU e)
theorem x_hear_in (hC : Core Θ S0 ω) (hL : LawR Θ ω (zR S0 14 17) (zA S0 219) lw) (ha : a < cO' (zA S0 219)) {K : Nat → Int32 → Int32 → Int32 → OW → Nat → RO} {t : Nat} (ht : t < 9) : ∀ (m e f : Nat) (S : PZ), e + m = 9 → m < f → KH S0 S → ∃ S', L_X10_hearAllChoices_18 Θ K f (gb Θ) (nI a) ch (nI t) (nI e) (laz Θ S ω) n = K (gb Θ) (nI a) ch (nI (t + 1)) (laz Θ S' ω) n ∧ KH S0 S' ∧ (∀ u, u ≠ t → zA S' 8 u = zA S 8 u) ∧ ∀ i, i < 32 → (bt (zA S' 8 t) i = true ↔ (bt (zA S 8 t) i = true ∨ (e ≤ i ∧ i < 9 ∧ bt ch t = true ∧ bt ch i = true ∧ hcU (zA S0 219) lw a t i = true))) := by
  intro m
  induction m with
  | zero =>
    intro e f S h1 h2 kh
    obtain ⟨f, rfl⟩ : ∃ g, f = g + 1 := ⟨f - 1, by omega⟩
    refine ⟨S, ?_, kh, fun _ _ => rfl, fun i hi => ⟨Or.inl, fun u => u.elim id (fun u => by omega)⟩⟩
    unfold L_X10_hearAllChoices_18 B_X10_hearAllChoices_18
    rw [if_pos (show (8 : Int32) < nI e from nI_lt (a := 8) (by omega) (by omega)), nI_1]
  | succ m ih =>
    intro e f S h1 h2 kh
    obtain ⟨f, rfl⟩ : ∃ g, f = g + 1 := ⟨f - 1, by omega⟩
    have he : e < 9 := by omega
    have h9 : zA S 219 = zA S0 219 := kh.2.1 219 (by omega) (by omega)
    have hC1 : Core Θ S ω := hC.kp kh.kp
    have hL1 : LawR Θ ω (zR S 14 17) (zA S 219) lw := by rw [h9, kh.2.2.1]; exact hL
    rw [show L_X10_hearAllChoices_18 Θ K (f + 1) (gb Θ) (nI a) ch (nI t) (nI e) (laz Θ S ω) n = B_X10_hearAllChoices_18 Θ K (L_X10_hearAllChoices_18 Θ K f) (gb Θ) (nI a) ch (nI t) (nI e) (laz Θ S ω) n from rfl]
    unfold B_X10_hearAllChoices_18 J_X10_hearAllChoices_112 J_X10_hearAllChoices_114
    rw [if_neg (show ¬ (8 : Int32) < nI e from nI_nlt (a := 8) (by omega) (by omega)), nI_1]
    have hcond : (((ch >>> (nI t &&& 31)) &&& (ch >>> (nI e &&& 31))) &&& 1 = 0) ↔ ¬ (bt ch t = true ∧ bt ch e = true) := by
      rw [and1_0, b_and, sh_bt (by omega), sh_bt (by omega), Bool.and_eq_true]
    by_cases z : bt ch t = true ∧ bt ch e = true
    · obtain ⟨S1, S2, S3, S4, e1, e2, e3, e4, x4, h8⟩ := x_choice (n := n) hC1 hL1 (a := a) (by rw [h9]; exact ha) (tnP (ciU t)) (v := nI e - 1) (es := esP (ciU e)) (fun p hp => esP_tab e he p hp)
      rw [h9] at h8
      have k4 : KH S0 S4 := kh.trans x4.kh
      rw [if_neg (fun u => hcond.mp u z), r10_8, d202, e1, kV_v, r10_8, d202, tnP_tab t ht, e2, kV_v, r10_8, d202, e3, kV_v, r10_8, b202_6, r10_8, d202, e4, kV_v, r10_13, l_8 ht, r10_8, a202_8, h8]
      have same8 : zA S4 8 = zA S 8 := x4.2.1 8 (by omega)
      by_cases y : rdT (zA S0 219) lw a (tnP (ciU t)) (esP (ciU e)) = -1
      · have hh : hcU (zA S0 219) lw a t e = false := by unfold hcU hrT; exact decide_eq_false (fun u => u y)
        rw [if_pos y, s_8 ht]
        obtain ⟨S', e5, k5, s5, b5⟩ := ih (e + 1) f (uA S4 8 (upd (zA S4 8) t (zA S4 8 t ||| 0))) (by omega) (by omega) k4.nA
        refine ⟨S', e5, k5, fun u hu => ?_, fun i hi => ?_⟩
        · rw [s5 u hu, zA_eq, upd_ne _ _ hu, same8]
        · rw [b5 i hi, zA_eq, upd_same, b_or, b_0, Bool.or_false, same8]
          constructor
          · rintro (u | u)
            · exact Or.inl u
            · exact Or.inr ⟨by omega, u.2⟩
          · rintro (u | u)
            · exact Or.inl u
            · by_cases v : i = e
              · subst v; rw [hh] at u; exact absurd u.2.2.2.2 (by decide)
              · exact Or.inr ⟨by omega, u.2⟩
      · have hh : hcU (zA S0 219) lw a t e = true := by unfold hcU hrT; exact decide_eq_true y
        rw [if_neg y, s_8 ht]
        obtain ⟨S', e5, k5, s5, b5⟩ := ih (e + 1) f (uA S4 8 (upd (zA S4 8) t (zA S4 8 t ||| 1 <<< (nI e &&& 31)))) (by omega) (by omega) k4.nA
        refine ⟨S', e5, k5, fun u hu => ?_, fun i hi => ?_⟩
        · rw [s5 u hu, zA_eq, upd_ne _ _ hu, same8]
        · rw [b5 i hi, zA_eq, upd_same, b_or, bt_sh (by omega) hi, same8, Bool.or_eq_true, decide_eq_true_iff]
          constructor
          · rintro ((u | u) | u)
            · exact Or.inl u
            · subst u; exact Or.inr ⟨by omega, he, z.1, z.2, hh⟩
            · exact Or.inr ⟨by omega, u.2⟩
          · rintro (u | u)
            · exact Or.inl (Or.inl u)
            · by_cases v : i = e
              · exact Or.inl (Or.inr v)
              · exact Or.inr ⟨by omega, u.2⟩
    · rw [if_pos (hcond.mpr z)]
      obtain ⟨S', e5, k5, s5, b5⟩ := ih (e + 1) f S (by omega) (by omega) kh
      refine ⟨S', e5, k5, s5, fun i hi => ?_⟩
      rw [b5 i hi]
      constructor
      · rintro (u | u)
        · exact Or.inl u
        · exact Or.inr ⟨by omega, u.2⟩
      · rintro (u | u)
        · exact Or.inl u
        · by_cases v : i = e
          · subst v; exact absurd ⟨u.2.2.1, u.2.2.2.1⟩ z
          · exact Or.inr ⟨by omega, u.2⟩
theorem x_hear_out (hC : Core Θ S0 ω) (hL : LawR Θ ω (zR S0 14 17) (zA S0 219) lw) (ha : a < cO' (zA S0 219)) : ∀ (m t f : Nat) (S : PZ), t + m = 9 → m < f → KH S0 S → ∃ S', L_X10_hearAllChoices_2 Θ f (gb Θ) (nI a) ch (nI t) (laz Θ S ω) n = some (.inl (none, laz Θ S' ω, n)) ∧ KH S0 S' ∧ (∀ u, u < t → zA S' 8 u = zA S 8 u) ∧ ∀ u, t ≤ u → u < 9 → ∀ i, i < 32 → (bt (zA S' 8 u) i = true ↔ (i < 9 ∧ bt ch u = true ∧ bt ch i = true ∧ hcU (zA S0 219) lw a u i = true)) := by
  intro m
  induction m with
  | zero =>
    intro t f S h1 h2 kh
    obtain ⟨f, rfl⟩ : ∃ g, f = g + 1 := ⟨f - 1, by omega⟩
    refine ⟨S, ?_, kh, fun _ _ => rfl, fun u h3 h4 => by omega⟩
    unfold L_X10_hearAllChoices_2 B_X10_hearAllChoices_2
    rw [if_pos (show (8 : Int32) < nI t from nI_lt (a := 8) (by omega) (by omega))]
  | succ m ih =>
    intro t f S h1 h2 kh
    obtain ⟨f, rfl⟩ : ∃ g, f = g + 1 := ⟨f - 1, by omega⟩
    have ht : t < 9 := by omega
    obtain ⟨S1, e1, k1, s1, b1⟩ := x_hear_in (n := n) (ch := ch) (K := L_X10_hearAllChoices_2 Θ f) hC hL ha ht 9 0 5000 (uA S 8 (upd (zA S 8) t 0)) (by omega) (by omega) kh.nA
    obtain ⟨S2, e2, k2, s2, b2⟩ := ih (t + 1) f S1 (by omega) (by omega) k1
    refine ⟨S2, ?_, k2, fun u hu => ?_, fun u hu h9 i hi => ?_⟩
    · rw [show L_X10_hearAllChoices_2 Θ (f + 1) (gb Θ) (nI a) ch (nI t) (laz Θ S ω) n = B_X10_hearAllChoices_2 Θ (L_X10_hearAllChoices_2 Θ f) (gb Θ) (nI a) ch (nI t) (laz Θ S ω) n from rfl]
      unfold B_X10_hearAllChoices_2
      have e1 : L_X10_hearAllChoices_18 Θ (L_X10_hearAllChoices_2 Θ f) 5000 (gb Θ) (nI a) ch (nI t) 0 (laz Θ (uA S 8 (upd (zA S 8) t 0)) ω) n = _ := e1
      rw [if_neg (show ¬ (8 : Int32) < nI t from nI_nlt (a := 8) (by omega) (by omega)), r10_13, s_8 ht, e1, e2]
    · rw [s2 u (by omega), s1 u (by omega), zA_eq, upd_ne _ _ (by omega)]
    · by_cases z : u = t
      · subst z
        rw [s2 u (by omega), b1 i hi, zA_eq, upd_same, b_0]
        constructor
        · rintro (v | v)
          · cases v
          · exact v.2
        · intro v; exact Or.inr ⟨by omega, v⟩
      · exact b2 u (by omega) h9 i hi
theorem x_us25_L : ∀ (m t f : Nat) (l3 : Int32), t + m = 9 → m < f → L_X10_usher_25 Θ f (gb Θ) ch l3 (nI t) (laz Θ S ω) n = L_X10_usher_54 Θ 5000 (gb Θ) ch (orL (zA S 8) m t l3) 0 0 (laz Θ S ω) n := by
  intro m
  induction m with
  | zero =>
    intro t f l3 h1 h2
    obtain ⟨f, rfl⟩ : ∃ g, f = g + 1 := ⟨f - 1, by omega⟩
    unfold L_X10_usher_25 B_X10_usher_25
    rw [if_pos (show (8 : Int32) < nI t from nI_lt (a := 8) (by omega) (by omega))]
    rfl
  | succ m ih =>
    intro t f l3 h1 h2
    obtain ⟨f, rfl⟩ : ∃ g, f = g + 1 := ⟨f - 1, by omega⟩
    unfold L_X10_usher_25 B_X10_usher_25
    rw [if_neg (show ¬ (8 : Int32) < nI t from nI_nlt (a := 8) (by omega) (by omega)), r10_13, l_8 (by omega), nI_1, ih (t + 1) f _ (by omega) (by omega)]
    rfl
theorem x_us54_L {C : Nat → Bool} {H : Nat → Nat → Bool} {any : Int32} (hch : ∀ i, i < 32 → (bt ch i = true ↔ i < 9 ∧ C i = true)) (hh : ∀ u, u < 9 → ∀ i, i < 32 → (bt (zA S 8 u) i = true ↔ (i < 9 ∧ C u = true ∧ C i = true ∧ H u i = true))) (hany : ∀ i, i < 32 → (bt any i = true ↔ ∃ u, u < 9 ∧ i < 9 ∧ C u = true ∧ C i = true ∧ H u i = true)) : ∀ (m t f c : Nat), t + m = 9 → m < f → L_X10_usher_54 Θ f (gb Θ) ch any (nI c) (nI t) (laz Θ S ω) n = some (.inl (some (.int (nI (c + smN (fun t => ctB (rsC C H t) 9 0) m t))), laz Θ S ω, n)) := by
  intro m
  induction m with
  | zero =>
    intro t f c h1 h2
    obtain ⟨f, rfl⟩ : ∃ g, f = g + 1 := ⟨f - 1, by omega⟩
    unfold L_X10_usher_54 B_X10_usher_54
    rw [if_pos (show (8 : Int32) < nI t from nI_lt (a := 8) (by omega) (by omega))]
    rfl
  | succ m ih =>
    intro t f c h1 h2
    obtain ⟨f, rfl⟩ : ∃ g, f = g + 1 := ⟨f - 1, by omega⟩
    have ht : t < 9 := by omega
    rw [show L_X10_usher_54 Θ (f + 1) (gb Θ) ch any (nI c) (nI t) (laz Θ S ω) n = B_X10_usher_54 Θ (L_X10_usher_54 Θ f) (gb Θ) ch any (nI c) (nI t) (laz Θ S ω) n from rfl, show smN (fun t => ctB (rsC C H t) 9 0) (m + 1) t = ctB (rsC C H t) 9 0 + smN (fun t => ctB (rsC C H t) 9 0) m (t + 1) from rfl]
    unfold B_X10_usher_54 J_X10_usher_93 J_X10_usher_116
    rw [if_neg (show ¬ (8 : Int32) < nI t from nI_nlt (a := 8) (by omega) (by omega)), nI_1]
    have hcond : ((ch >>> (nI t &&& 31)) &&& 1 = 0) ↔ ¬ C t = true := by
      rw [and1_0, sh_bt (by omega), hch t (by omega)]
      exact ⟨fun u v => u ⟨ht, v⟩, fun u v => u v.2⟩
    by_cases z : C t = true
    · have hsec : bcS ((ch &&& (zA S 8 t ^^^ -1)) &&& (any ^^^ -1)) = nI (ctB (fun i => dcC (C i = true ∧ ¬ H t i = true ∧ ¬ ∃ u, u < 9 ∧ C u = true ∧ H u i = true)) 9 0) := by
        apply bc9
        intro i hi
        rw [b_and, b_and, b_xor, b_xor, b_m1 i hi, Bool.and_eq_true, Bool.and_eq_true, hch i hi, dcC_iff]
        have x1 : (bt (zA S 8 t) i ^^ true) = true ↔ ¬ (i < 9 ∧ C t = true ∧ C i = true ∧ H t i = true) := by
          rw [← hh t ht i hi]
          cases bt (zA S 8 t) i <;> decide
        have x2 : (bt any i ^^ true) = true ↔ ¬ ∃ u, u < 9 ∧ i < 9 ∧ C u = true ∧ C i = true ∧ H u i = true := by
          rw [← hany i hi]
          cases bt any i <;> decide
        rw [x1, x2]
        constructor
        · rintro ⟨⟨⟨u1, u2⟩, u3⟩, u4⟩
          exact ⟨u1, u2, fun v => u3 ⟨u1, z, u2, v⟩, fun ⟨k, k1, k2, k3⟩ => u4 ⟨k, k1, u1, k2, u2, k3⟩⟩
        · rintro ⟨u1, u2, u3, u4⟩
          exact ⟨⟨⟨u1, u2⟩, fun v => u3 v.2.2.2⟩, fun ⟨k, k1, k2, k3, k4, k5⟩ => u4 ⟨k, k1, k3, k5⟩⟩
      have hall : (zA S 8 t = ch) ↔ (∀ k, k < 9 → C k = true → H t k = true) := by
        constructor
        · intro u k hk ck
          have := (hch k (by omega)).mpr ⟨hk, ck⟩
          rw [← u] at this
          exact ((hh t ht k (by omega)).mp this).2.2.2
        · intro u
          apply b_ext
          intro i hi
          apply Bool.eq_iff_iff.mpr
          rw [hh t ht i hi, hch i hi]
          exact ⟨fun v => ⟨v.1, v.2.2.1⟩, fun v => ⟨v.1, z, v.2, u i v.1 v.2⟩⟩
      have hb := bc9 (x := ch) (f := C) hch
      have hr := us_row C H ht z
      rw [if_neg (fun u => hcond.mp u z), r10_13, l_8 ht]
      by_cases y : ∀ k, k < 9 → C k = true → H t k = true
      · rw [if_pos (dcC_t y)] at hr
        rw [if_pos (hall.mpr y), e_bc, kI_v, r10_13, l_8 ht, e_bc, kI_v, hb, hsec, nI_add, nI_add, ih (t + 1) f _ (by omega) (by omega)]
        congr 6
        omega
      · rw [if_neg (by rw [dcC_f y]; decide)] at hr
        rw [if_neg (fun u => y (hall.mp u)), r10_13, l_8 ht, e_bc, kI_v, hsec, nI_add, ih (t + 1) f _ (by omega) (by omega)]
        congr 6
        omega
    · have h0 : ctB (rsC C H t) 9 0 = 0 := ctB_0 9 0 (fun q _ _ => by unfold rsC; rw [Bool.eq_false_iff.mpr z]; rfl)
      rw [if_pos (hcond.mpr z), h0, Nat.zero_add]
      exact ih (t + 1) f c (by omega) (by omega)
end UX
theorem gna_ch {w : Nat → Int32} (hW : WB w) : ∀ i, i < 32 → (bt (((orL (gna w) (cP w) 0 0) <<< ((1 : Int32) &&& 31)) ||| 1) i = true ↔ i < 9 ∧ cnB w (ciU i) = true) := by
  intro i hi
  have h8 := hW.P8
  have e1 : bt ((orL (gna w) (cP w) 0 0) <<< ((1 : Int32) &&& 31)) i = (decide (1 ≤ i) && bt (orL (gna w) (cP w) 0 0) (i - 1)) := b_shl 1 (by omega) _ hi
  rw [b_or, e1, b_1 i hi, Bool.or_eq_true, Bool.and_eq_true, decide_eq_true_iff, decide_eq_true_iff, orL_bt]
  unfold cnB ciU
  rw [decide_eq_true_iff]
  constructor
  · rintro (⟨h1, h | ⟨q, q1, q2, q3⟩⟩ | h)
    · rw [b_0] at h; cases h
    · unfold gna at q3
      by_cases z : w (4 * q + 12) = -1
      · rw [if_pos z, b_0] at q3; cases q3
      · rw [if_neg z, bt_sh (by omega) (by omega), decide_eq_true_iff] at q3
        refine ⟨by omega, ?_⟩
        rw [if_neg (by omega), q3]
        exact Or.inr ⟨by omega, z⟩
    · subst h
      exact ⟨by omega, Or.inl (if_pos rfl)⟩
  · rintro ⟨h1, h2⟩
    by_cases z : i = 0
    · exact Or.inr z
    · rw [if_neg z] at h2
      rcases h2 with h2 | ⟨h2, h3⟩
      · omega
      · refine Or.inl ⟨by omega, Or.inr ⟨i - 1, by omega, by omega, ?_⟩⟩
        unfold gna
        rw [if_neg h3, bt_sh (by omega) (by omega), decide_eq_true_iff]
theorem pc34 (Θ : GP) : PC_34 Θ (gb Θ) (gb Θ + 218) (gb Θ + 234) (Inv Θ) := by
  intro v xs i hI
  obtain ⟨S, ω, rfl, hC, hI⟩ := hI
  have hO := hC.O
  have hP := hC.P
  obtain ⟨lw, hL⟩ := hC.lw
  show stW Θ _ _ (fun ω n => W_usher Θ (gb Θ) (xs (i + 1)) (gb Θ + 234) ω n) (fun ω n => F_X11_usher Θ (gb Θ + 218) (xs (i + 1)) ω n) _ _
  generalize xs (i + 1) = v
  by_cases hv : ∃ s, s < cO' (zA S 219) ∧ v = nI s
  · obtain ⟨a, ha, rfl⟩ := hv
    refine fin_W fun n _ => ?_
    have hch := gna_ch hC.1.1
    obtain ⟨S1, e1, k1, _, b1⟩ := x_hear_out (n := n) (ch := ((orL (gna (zA S 219)) (cP (zA S 219)) 0 0) <<< ((1 : Int32) &&& 31)) ||| 1) hC hL ha 9 0 5000 S (by omega) (by omega) (KH.rf S)
    have e1 : F_X10_hearAllChoices Θ (gb Θ) (nI a) (((orL (gna (zA S 219)) (cP (zA S 219)) 0 0) <<< ((1 : Int32) &&& 31)) ||| 1) (laz Θ S ω) n = _ := e1
    generalize hx : ((orL (gna (zA S 219)) (cP (zA S 219)) 0 0) <<< ((1 : Int32) &&& 31)) ||| 1 = ch at *
    have e2 : L_X10_usher_25 Θ 5000 (gb Θ) ch 0 0 (laz Θ S1 ω) n = _ := x_us25_L (Θ := Θ) (S := S1) (ω := ω) (n := n) (ch := ch) 9 0 5000 0 (by omega) (by omega)
    have hh : ∀ u, u < 9 → ∀ i, i < 32 → (bt (zA S1 8 u) i = true ↔ (i < 9 ∧ cnB (zA S 219) (ciU u) = true ∧ cnB (zA S 219) (ciU i) = true ∧ hrT (zA S 219) lw a (ciU u) (ciU i) = true)) := by
      intro u hu i hi
      rw [b1 u (by omega) hu i hi, hch u (by omega), hch i hi]
      exact ⟨fun q => ⟨q.1, q.2.1.2, q.2.2.1.2, q.2.2.2⟩, fun q => ⟨q.1, ⟨hu, q.2.1⟩, ⟨q.1, q.2.2.1⟩, q.2.2.2⟩⟩
    have e3 : L_X10_usher_54 Θ 5000 (gb Θ) ch (orL (zA S1 8) 9 0 0) 0 0 (laz Θ S1 ω) n = _ := x_us54_L (Θ := Θ) (S := S1) (ω := ω) (n := n) (ch := ch) (C := fun i => cnB (zA S 219) (ciU i)) (H := fun i j => hrT (zA S 219) lw a (ciU i) (ciU j)) hch hh (fun i hi => by
      rw [orL_bt, b_0]
      constructor
      · rintro (q | ⟨u, u1, u2, u3⟩)
        · cases q
        · exact ⟨u, by omega, (hh u (by omega) i hi).mp u3⟩
      · rintro ⟨u, u1, u2⟩
        exact Or.inr ⟨u, by omega, by omega, (hh u u1 i hi).mpr u2⟩) 9 0 5000 0 (by omega) (by omega)
    rw [us_tot, Nat.zero_add] at e3
    have h9 : zA S1 219 = zA S 219 := k1.2.1 219 (by omega) (by omega)
    have hI1 := k1.idle hI
    refine ⟨0, uL S1 234 (nI (smN (fun t => ctB (rsC (cnB (zA S 219)) (hrT (zA S 219) lw a) t) 9 0) 9 0)).toInt64, ω, ?_, fun n2 => ?_⟩
    · show W_usher Θ (gb Θ) (nI a) (gb Θ + 234) (laz Θ S ω) n = _
      unfold W_usher F_X10_usher
      rw [c10w, c10, x_needOne_y hC ha, kV_v, c10, x_nailedProps hC.1.2.1 hP.2.2 hP.2.1 rfl hC.1.1, kI_v, hx, c10, e1, kV_v, e2, e3, wrJ_v]
    · generalize hr : nI (smN (fun t => ctB (rsC (cnB (zA S 219)) (hrT (zA S 219) lw a) t) 9 0) 9 0) = r
      obtain ⟨S2, e5, x5⟩ := m_usher_L (Θ := Θ) (ω := ω) (n := n2) (w := zA S 219) (lw := lw) (a := a) hC.1.1 hL.2 (by omega) 9 0 5000 0 (uF (uL S1 234 r.toInt64) 218 0 0) (by omega) (by omega) h9 hI1.2.2.1 hI1.2.2.2
      rw [Nat.zero_add, hr] at e5
      have e5 : L_X11_usher_24 Θ 5000 (gb Θ + 218) (nI a) 0 0 (laz Θ (uF (uL S1 234 r.toInt64) 218 0 0) ω) n2 = _ := e5
      refine ⟨r, S2, n2, ?_, (x5.1 218 0 (by omega)).trans rfl, fun _ => (x5.2.2.2 234).trans rfl, (((hC.kp k1.kp).nL).thr).kp x5.kp, x5.idle (hI1.nL.thr)⟩
      show F_X11_usher Θ (gb Θ + 218) (nI a) (laz Θ _ ω) n2 = _
      unfold F_X11_usher
      rw [b218_0, d218, m_noOne_y (P := cO' (zA S 219)) (by rw [← hO.1]; exact congrFun h9 1) hO.2.1 ha, kI_v, d218, m_throwsIf0, kI_v, if_pos rfl, e5]
  · refine one_n hC hI hv (fun n => ?_) (fun n => ?_)
    · show W_usher Θ (gb Θ) v (gb Θ + 234) (laz Θ S ω) n = _
      unfold W_usher F_X10_usher
      rw [c10w, c10, x_needOne_n hC hv, kV_x, wrJ_x]
    · show F_X11_usher Θ (gb Θ + 218) v (laz Θ S ω) n = _
      unfold F_X11_usher
      rw [b218_0, d218, m_noOne_n (by exact hO.1) hO.2.1 hv, kI_v, d218, m_throwsIf1, kI_v, if_neg (by decide)]
