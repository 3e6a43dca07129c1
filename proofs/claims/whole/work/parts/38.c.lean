/-! usher: pairs of choices that rest -/
def smN (g : Nat → Nat) : Nat → Nat → Nat
  | 0, _ => 0
  | k + 1, p => g p + smN g k (p + 1)
theorem smN_congr {f g : Nat → Nat} : ∀ (k p : Nat), (∀ q, p ≤ q → q < p + k → f q = g q) → smN f k p = smN g k p := by
  intro k
  induction k with
  | zero => intro p _; rfl
  | succ k ih =>
    intro p h
    unfold smN
    rw [h p (Nat.le_refl _) (by omega), ih (p + 1) (fun q a b => h q (by omega) (by omega))]
/-- the class's choice as the reference's -/
def ciU (t : Nat) : Nat := if t = 0 then 8 else t - 1
theorem ciU_all {P : Nat → Prop} : (∀ k, k < 9 → P (ciU k)) ↔ (∀ k, k < 9 → P k) := by
  constructor
  · intro h k hk
    by_cases z : k = 8
    · subst z; exact h 0 (by omega)
    · have := h (k + 1) (by omega)
      unfold ciU at this
      rw [if_neg (by omega), Nat.add_sub_cancel] at this
      exact this
  · intro h k hk
    apply h
    unfold ciU
    split <;> omega
theorem ciU_sum (g : Nat → Nat) : smN (fun t => g (ciU t)) 9 0 = smN g 9 0 := by
  show g 8 + (g 0 + (g 1 + (g 2 + (g 3 + (g 4 + (g 5 + (g 6 + (g 7 + 0)))))))) = g 0 + (g 1 + (g 2 + (g 3 + (g 4 + (g 5 + (g 6 + (g 7 + (g 8 + 0))))))))
  omega
theorem ctB_smN (f : Nat → Bool) : ∀ (k p : Nat), ctB f k p = smN (fun q => if f q = true then 1 else 0) k p := by
  intro k
  induction k with
  | zero => intro p; rfl
  | succ k ih =>
    intro p
    unfold ctB smN
    rw [ih]
theorem ctB_0 {f : Nat → Bool} : ∀ (k p : Nat), (∀ q, p ≤ q → q < p + k → f q = false) → ctB f k p = 0 := by
  intro k
  induction k with
  | zero => intro p _; rfl
  | succ k ih =>
    intro p h
    unfold ctB
    rw [h p (Nat.le_refl _) (by omega), ih (p + 1) (fun q a b => h q (by omega) (by omega))]
    rfl
noncomputable def dcC (P : Prop) : Bool := @decide P (Classical.propDecidable P)
theorem dcC_iff {P : Prop} : dcC P = true ↔ P := @decide_eq_true_iff P (Classical.propDecidable P)
theorem dcC_t {P : Prop} (h : P) : dcC P = true := dcC_iff.mpr h
theorem dcC_f {P : Prop} (h : ¬ P) : dcC P = false := Bool.eq_false_iff.mpr (fun u => h (dcC_iff.mp u))
theorem dcC_c {P Q : Prop} (h : P ↔ Q) : dcC P = dcC Q := by rw [propext h]
noncomputable def rsC (C : Nat → Bool) (H : Nat → Nat → Bool) (t e : Nat) : Bool := C t && (C e && (if H t e = true then dcC (∀ k, k < 9 → C k = true → H t k = true) else dcC (∀ k, k < 9 → C k = true → H k e = false)))
theorem rsC_ci (C : Nat → Bool) (H : Nat → Nat → Bool) (t e : Nat) : rsC (fun i => C (ciU i)) (fun i j => H (ciU i) (ciU j)) t e = rsC C H (ciU t) (ciU e) := by
  unfold rsC
  have e1 : (∀ k, k < 9 → C (ciU k) = true → H (ciU t) (ciU k) = true) ↔ (∀ k, k < 9 → C k = true → H (ciU t) k = true) := ciU_all (P := fun k => C k = true → H (ciU t) k = true)
  have e2 : (∀ k, k < 9 → C (ciU k) = true → H (ciU k) (ciU e) = false) ↔ (∀ k, k < 9 → C k = true → H k (ciU e) = false) := ciU_all (P := fun k => C k = true → H k (ciU e) = false)
  rw [dcC_c e1, dcC_c e2]
/-- all pairs -/
theorem us_tot (C : Nat → Bool) (H : Nat → Nat → Bool) : smN (fun t => ctB (rsC (fun i => C (ciU i)) (fun i j => H (ciU i) (ciU j)) t) 9 0) 9 0 = smN (fun t => ctB (rsC C H t) 9 0) 9 0 := by
  rw [← ciU_sum (fun t => ctB (rsC C H t) 9 0)]
  refine smN_congr 9 0 (fun t _ _ => ?_)
  rw [ctB_smN, ctB_smN, ← ciU_sum (fun q => if rsC C H (ciU t) q = true then 1 else 0)]
  refine smN_congr 9 0 (fun e _ _ => ?_)
  rw [rsC_ci]
/-- a row by the class's way -/
theorem us_row (C : Nat → Bool) (H : Nat → Nat → Bool) {t : Nat} (ht : t < 9) (hC : C t = true) : (if dcC (∀ k, k < 9 → C k = true → H t k = true) = true then ctB C 9 0 else 0) + ctB (fun i => dcC (C i = true ∧ ¬ H t i = true ∧ ¬ ∃ u, u < 9 ∧ C u = true ∧ H u i = true)) 9 0 = ctB (rsC C H t) 9 0 := by
  by_cases z : ∀ k, k < 9 → C k = true → H t k = true
  · have h0 : ctB (fun i => dcC (C i = true ∧ ¬ H t i = true ∧ ¬ ∃ u, u < 9 ∧ C u = true ∧ H u i = true)) 9 0 = 0 := ctB_0 9 0 (fun i _ hi => dcC_f (fun u => u.2.1 (z i (by omega) u.1)))
    rw [if_pos (dcC_t z), h0, Nat.add_zero]
    refine (vlB_congr 9 0 (fun i _ hi => ?_)).2
    unfold rsC
    rw [hC, Bool.true_and]
    cases y : C i
    · rfl
    · rw [if_pos (z i (by omega) y), dcC_t z]; rfl
  · rw [if_neg (by rw [dcC_f z]; decide), Nat.zero_add]
    refine (vlB_congr 9 0 (fun i _ hi => ?_)).2
    unfold rsC
    rw [hC, Bool.true_and]
    cases y : C i
    · rw [Bool.false_and]; exact dcC_f (fun u => by have := u.1; cases this)
    · rw [Bool.true_and]
      by_cases v : H t i = true
      · rw [if_pos v, dcC_f z]; exact dcC_f (fun u => u.2.1 v)
      · rw [if_neg v]
        apply dcC_c
        constructor
        · rintro ⟨_, _, u⟩ k hk ck
          cases x : H k i
          · rfl
          · exact absurd ⟨k, hk, ck, x⟩ u
        · intro u
          refine ⟨rfl, v, fun ⟨k, hk, ck, x⟩ => ?_⟩
          rw [u k hk ck] at x
          cases x
theorem bc9_tab : ∀ s, s < 512 → bcS (nI s) = nI (ctB s.testBit 9 0) := by decide +kernel
theorem bc9 {x : Int32} {f : Nat → Bool} (h : ∀ i, i < 32 → (bt x i = true ↔ i < 9 ∧ f i = true)) : bcS x = nI (ctB f 9 0) := by
  obtain ⟨b1, b2⟩ := vlP_bits f 9
  have e : x = nI (vlP f 9) := by
    apply b_ext
    intro i hi
    rw [bt_nat hi]
    by_cases z : i < 9
    · rw [b2 i z]
      cases y : f i
      · cases v : bt x i
        · rfl
        · have := ((h i hi).mp v).2
          rw [y] at this; cases this
      · exact (h i hi).mpr ⟨z, y⟩
    · rw [Nat.testBit_lt_two_pow (Nat.lt_of_lt_of_le b1 (Nat.pow_le_pow_right (by omega) (by omega)))]
      cases v : bt x i
      · rfl
      · exact absurd ((h i hi).mp v).1 z
  rw [e, bc9_tab _ b1]
  congr 1
  exact (vlB_congr 9 0 (fun q _ hq => b2 q (by omega))).2
def tnP (i : Nat) : Int32 := if i = 8 then 0 else 1 <<< (nI i &&& 31)
def esP (i : Nat) : Nat → Bool := fun p => decide (p = i)
theorem tnP_tab : ∀ t, t < 9 → ((1 : Int32) <<< (nI t &&& 31)) >>> ((1 : Int32) &&& 31) = tnP (ciU t) := by decide +kernel
theorem esP_tab : ∀ e, e < 9 → ∀ p, p < 8 → (nI p = nI e - 1 ↔ esP (ciU e) p = true) := by decide +kernel
theorem esP_has : ∀ e, e < 9 → ∀ p, p < 8 → (hasS (tnP e) (nI p) = 1 ↔ esP e p = true) := by decide +kernel
noncomputable def hrT (w : Nat → Int32) (lw : LW) (a i j : Nat) : Bool := decide (¬ rdT w lw a (tnP i) (esP j) = -1)
def cnB (w : Nat → Int32) (i : Nat) : Bool := decide (i = 8 ∨ (i < cP w ∧ ¬ w (4 * i + 12) = -1))
section US
variable {Θ : GP} {S : PZ} {ω : OW} {n : Nat} {w : Nat → Int32} {lw : LW} {a : Nat}
theorem m_canBe (hw : zA S 219 = w) (hW : WB w) {i : Nat} (hi : i < 9) : F_X11_canBe Θ (gb Θ + 218) (nI i) (laz Θ S ω) n = some (.inl (some (.int (b01 (cnB w i))), laz Θ S ω, n)) := by
  have h8 := hW.P8
  unfold F_X11_canBe J_X11_canBe_26 J_X11_canBe_22 J_X11_canBe_27 cnB
  by_cases z : i = 8
  · subst z
    rw [if_pos (show nI 8 = 8 from rfl), bz_1, decide_eq_true (Or.inl rfl)]; rfl
  · have hne : ¬ nI i = 8 := fun u => z ((nI_eq (b := 8) (by omega) (by omega)).mp u)
    rw [if_neg hne, d218, m_props, kI_v, hw, h8.1]
    by_cases y : i < cP w
    · rw [if_neg (nI_ge (by omega) (by omega)), d218, m_isNailed (by omega), kI_v, hw]
      by_cases v : w (4 * i + 12) = -1
      · rw [if_pos v, if_pos rfl, bz_0, decide_eq_false (fun u => u.elim z (fun u => u.2 v))]; rfl
      · rw [if_neg v, if_neg (by decide), bz_1, decide_eq_true (Or.inr ⟨y, v⟩)]; rfl
    · rw [if_pos (nI_le (by omega) (by omega)), bz_0, decide_eq_false (fun u => u.elim z (fun u => y u.1))]; rfl
theorem m_isHeard (hw : zA S 219 = w) (hW : WB w) (hM : LawM w lw) (ha : a < 6) (h23 : zF S 218 23 = 0) (h24 : zF S 218 24 = 0) {i j : Nat} (hi : i < 9) (hj : j < 9) : ∃ S', F_X11_isHeard Θ (gb Θ + 218) (nI a) (nI i) (nI j) (laz Θ S ω) n = some (.inl (some (.int (b01 (hrT w lw a i j))), laz Θ S' ω, n)) ∧ XP S S' := by
  have q8 : ∀ k, k < 9 → ∀ r s : RO, (if nI k = 8 then r else s) = if k = 8 then r else s := by
    intro k hk r s
    by_cases z : k = 8
    · subst z; rw [if_pos (show nI 8 = 8 from rfl), if_pos rfl]
    · rw [if_neg z, if_neg (show ¬ nI k = 8 from fun u => z ((nI_eq (b := 8) (by omega) (by omega)).mp u))]
  have g14 : ∀ T : PZ, (if j = 8 then J_X11_isHeard_31 Θ (gb Θ + 218) (nI a) 0 (gb Θ + 218) (laz Θ T ω) n else J_X11_isHeard_31 Θ (gb Θ + 218) (nI a) (1 <<< (nI j &&& 31)) (gb Θ + 218) (laz Θ T ω) n) = J_X11_isHeard_31 Θ (gb Θ + 218) (nI a) (tnP j) (gb Θ + 218) (laz Θ T ω) n := by
    intro T
    unfold tnP
    split <;> rfl
  have g15 : (if i = 8 then J_X11_isHeard_14 Θ (gb Θ + 218) (nI a) (nI j) 0 (gb Θ + 218) (laz Θ S ω) n else J_X11_isHeard_14 Θ (gb Θ + 218) (nI a) (nI j) (1 <<< (nI i &&& 31)) (gb Θ + 218) (laz Θ S ω) n) = J_X11_isHeard_14 Θ (gb Θ + 218) (nI a) (nI j) (tnP i) (gb Θ + 218) (laz Θ S ω) n := by
    unfold tnP
    split <;> rfl
  have xv : XV S (uF (uF S 218 23 (tnP i)) 218 24 (tnP j)) := ((XV.rf S).nF (by omega)).nF (by omega)
  obtain ⟨S1, e1, x1⟩ := m_rideT (Θ := Θ) (S := uF (uF S 218 23 (tnP i)) 218 24 (tnP j)) (ω := ω) (n := n) (w := w) (lw := lw) (a := a) (tn := tnP i) (es := esP j) hw hW hM ha (by rw [zF_ne _ _ (by omega), zF_eq]) (fun p hp => by rw [zF_eq]; exact esP_has j hj p hp)
  have xf : XP S (uF (uF S1 218 23 0) 218 24 0) := (((xv.xp x1).nF (by omega)).nF (by omega)).back (by rw [zF_ne _ _ (by omega), zF_eq, h23]) (by rw [zF_eq, h24])
  refine ⟨uF (uF S1 218 23 0) 218 24 0, ?_, xf⟩
  unfold F_X11_isHeard
  rw [q8 i hi, g15]
  unfold J_X11_isHeard_14
  rw [b218_23, q8 j hj, g14]
  unfold J_X11_isHeard_31 J_X11_isHeard_48 hrT
  rw [b218_24, d218, e1, kI_v]
  by_cases z : rdT w lw a (tnP i) (esP j) = -1
  · rw [if_pos z, b218_23, b218_24, bz_0, decide_eq_false (fun u => u z)]; rfl
  · rw [if_neg z, b218_23, b218_24, bz_1, decide_eq_true z]; rfl
/-- nobody turns -/
def rsL (C : Nat → Bool) (H : Nat → Nat → Bool) (i j : Nat) (hd : Bool) : Nat → Nat → Bool
  | 0, _ => true
  | m + 1, k => if C k = true ∧ (if hd = true then H i k = false else H k j = true) then false else rsL C H i j hd m (k + 1)
theorem rsL_iff (C : Nat → Bool) (H : Nat → Nat → Bool) (i j : Nat) (hd : Bool) : ∀ (m k : Nat), rsL C H i j hd m k = true ↔ ∀ q, k ≤ q → q < k + m → C q = true → (if hd = true then H i q = true else H q j = false) := by
  intro m
  induction m with
  | zero => intro k; exact ⟨fun _ q h1 h2 => by omega, fun _ => rfl⟩
  | succ m ih =>
    intro k
    show (if C k = true ∧ (if hd = true then H i k = false else H k j = true) then false else rsL C H i j hd m (k + 1)) = true ↔ _
    by_cases z : C k = true ∧ (if hd = true then H i k = false else H k j = true)
    · rw [if_pos z]
      constructor
      · intro h; cases h
      · intro h
        have := h k (Nat.le_refl _) (by omega) z.1
        cases hd
        · rw [if_neg (by decide)] at this z
          rw [z.2] at this; cases this
        · rw [if_pos rfl] at this z
          rw [z.2] at this; cases this
    · rw [if_neg z, ih]
      constructor
      · intro h q h1 h2 h3
        by_cases y : q = k
        · subst y
          cases hd
          · rw [if_neg (by decide)] at z ⊢
            exact Bool.eq_false_iff.mpr (fun u => z ⟨h3, u⟩)
          · rw [if_pos rfl] at z ⊢
            cases v : H i q
            · exact absurd ⟨h3, v⟩ z
            · rfl
        · exact h q (by omega) (by omega) h3
      · intro h q h1 h2 h3
        exact h q (by omega) (by omega) h3
theorem m_rests_L (hW : WB w) (hM : LawM w lw) (ha : a < 6) {i j : Nat} (hi : i < 9) (hj : j < 9) (hd : Bool) : ∀ (m k f : Nat) (S : PZ), k + m = 9 → m + 1 < f → zA S 219 = w → zF S 218 23 = 0 → zF S 218 24 = 0 → ∃ S', L_X11_rests_48 Θ f (gb Θ + 218) (nI a) (nI i) (nI j) 1 (b01 hd) (nI k) (laz Θ S ω) n = some (.inl (some (.int (b01 (rsL (cnB w) (hrT w lw a) i j hd m k))), laz Θ S' ω, n)) ∧ XP S S' := by
  have stop : ∀ (f k : Nat) (T : PZ), 0 < f → L_X11_rests_48 Θ f (gb Θ + 218) (nI a) (nI i) (nI j) 0 (b01 hd) (nI k) (laz Θ T ω) n = some (.inl (some (.int 0), laz Θ T ω, n)) := by
    intro f k T hf
    obtain ⟨f, rfl⟩ : ∃ g, f = g + 1 := ⟨f - 1, by omega⟩
    unfold L_X11_rests_48 B_X11_rests_48 J_X11_rests_112
    rw [if_pos rfl, bz_0]
    split <;> rfl
  intro m
  induction m with
  | zero =>
    intro k f S h1 h2 hw h23 h24
    obtain ⟨f, rfl⟩ : ∃ g, f = g + 1 := ⟨f - 1, by omega⟩
    refine ⟨S, ?_, XP.rf S⟩
    unfold L_X11_rests_48 B_X11_rests_48 J_X11_rests_112
    rw [if_pos (show (8 : Int32) < nI k from nI_lt (a := 8) (by omega) (by omega)), bz_1]
    rfl
  | succ m ih =>
    intro k f S h1 h2 hw h23 h24
    obtain ⟨f, rfl⟩ : ∃ g, f = g + 1 := ⟨f - 1, by omega⟩
    have hk : k < 9 := by omega
    have go : ∀ T : PZ, XP S T → ∃ S', L_X11_rests_48 Θ f (gb Θ + 218) (nI a) (nI i) (nI j) 1 (b01 hd) (nI (k + 1)) (laz Θ T ω) n = some (.inl (some (.int (b01 (rsL (cnB w) (hrT w lw a) i j hd m (k + 1)))), laz Θ S' ω, n)) ∧ XP S S' := by
      intro T xt
      obtain ⟨S', e, xp⟩ := ih (k + 1) f T (by omega) (by omega) ((xt.2.1 219 (by decide) (by decide) (by decide) (by decide)).trans hw) ((xt.1 218 23 (by omega)).trans h23) ((xt.1 218 24 (by omega)).trans h24)
      exact ⟨S', e, xt.trans xp⟩
    rw [show L_X11_rests_48 Θ (f + 1) (gb Θ + 218) (nI a) (nI i) (nI j) 1 (b01 hd) (nI k) (laz Θ S ω) n = B_X11_rests_48 Θ (L_X11_rests_48 Θ f) (gb Θ + 218) (nI a) (nI i) (nI j) 1 (b01 hd) (nI k) (laz Θ S ω) n from rfl, show rsL (cnB w) (hrT w lw a) i j hd (m + 1) k = if cnB w k = true ∧ (if hd = true then hrT w lw a i k = false else hrT w lw a k j = true) then false else rsL (cnB w) (hrT w lw a) i j hd m (k + 1) from rfl]
    unfold B_X11_rests_48 J_X11_rests_99 J_X11_rests_103 J_X11_rests_104
    rw [if_neg (show ¬ (8 : Int32) < nI k from nI_nlt (a := 8) (by omega) (by omega)), if_neg (show ¬ (1 : Int32) = 0 by decide), d218, m_canBe hw hW hk, kI_v, nI_1]
    cases hc : cnB w k with
    | false =>
      rw [if_pos (show b01 false = 0 from rfl), if_neg (fun u => by cases u.1)]
      exact go S (XP.rf S)
    | true =>
      rw [if_neg (show ¬ b01 true = 0 by decide)]
      cases hd with
      | false =>
        obtain ⟨S1, e1, x1⟩ := m_isHeard (Θ := Θ) (ω := ω) (n := n) (lw := lw) (a := a) hw hW hM ha h23 h24 hk hj
        rw [if_pos (show b01 false = 0 from rfl), d218, e1, kI_v]
        cases hh : hrT w lw a k j with
        | false =>
          rw [if_pos (show b01 false = 0 from rfl), if_neg (fun u => by have h2 := u.2; rw [if_neg (show ¬ false = true by decide)] at h2; cases h2)]
          exact go S1 x1
        | true =>
          rw [if_neg (show ¬ b01 true = 0 by decide), if_pos ⟨rfl, by rw [if_neg (show ¬ false = true by decide)]⟩]
          exact ⟨S1, stop f _ S1 (by omega), x1⟩
      | true =>
        obtain ⟨S1, e1, x1⟩ := m_isHeard (Θ := Θ) (ω := ω) (n := n) (lw := lw) (a := a) hw hW hM ha h23 h24 hi hk
        rw [if_neg (show ¬ b01 true = 0 by decide), d218, e1, kI_v]
        cases hh : hrT w lw a i k with
        | false =>
          rw [if_pos (show b01 false = 0 from rfl), if_pos ⟨rfl, by rw [if_pos rfl]⟩]
          exact ⟨S1, stop f _ S1 (by omega), x1⟩
        | true =>
          rw [if_neg (show ¬ b01 true = 0 by decide), if_neg (fun u => by have h2 := u.2; rw [if_pos rfl] at h2; cases h2)]
          exact go S1 x1
theorem rsL_rsC (C : Nat → Bool) (H : Nat → Nat → Bool) (i j : Nat) (h1 : C i = true) (h2 : C j = true) : rsL C H i j (H i j) 9 0 = rsC C H i j := by
  have h := rsL_iff C H i j (H i j) 9 0
  unfold rsC
  rw [h1, h2, Bool.true_and, Bool.true_and]
  by_cases z : H i j = true
  · rw [if_pos z]
    apply Bool.eq_iff_iff.mpr
    rw [h, dcC_iff]
    constructor
    · intro u k hk ck
      have := u k (by omega) (by omega) ck
      rw [if_pos z] at this; exact this
    · intro u k _ hk ck
      rw [if_pos z]; exact u k (by omega) ck
  · rw [if_neg z]
    apply Bool.eq_iff_iff.mpr
    rw [h, dcC_iff]
    constructor
    · intro u k hk ck
      have := u k (by omega) (by omega) ck
      rw [if_neg z] at this; exact this
    · intro u k _ hk ck
      rw [if_neg z]; exact u k (by omega) ck
theorem m_rests (hw : zA S 219 = w) (hW : WB w) (hM : LawM w lw) (ha : a < 6) (h23 : zF S 218 23 = 0) (h24 : zF S 218 24 = 0) {i j : Nat} (hi : i < 9) (hj : j < 9) : ∃ S', F_X11_rests Θ (gb Θ + 218) (nI a) (nI i) (nI j) (laz Θ S ω) n = some (.inl (some (.int (b01 (rsC (cnB w) (hrT w lw a) i j))), laz Θ S' ω, n)) ∧ XP S S' := by
  have zero : rsC (cnB w) (hrT w lw a) i j = false → ∃ S', J_X11_rests_20 Θ (gb Θ + 218) (nI a) (nI i) (nI j) (laz Θ S ω) n = some (.inl (some (.int (b01 (rsC (cnB w) (hrT w lw a) i j))), laz Θ S' ω, n)) ∧ XP S S' := by
    intro hz
    refine ⟨S, ?_, XP.rf S⟩
    unfold J_X11_rests_20 J_X11_rests_21 J_X11_rests_42 J_X11_rests_43
    rw [if_pos rfl, hz]
    unfold L_X11_rests_48 B_X11_rests_48 J_X11_rests_112
    rw [if_neg (by decide), if_pos rfl, bz_0]
    rfl
  unfold F_X11_rests
  rw [d218, m_canBe hw hW hi, kI_v]
  cases h1 : cnB w i with
  | false =>
    rw [if_pos (show b01 false = 0 from rfl)]
    exact zero (by unfold rsC; rw [h1]; rfl)
  | true =>
    rw [if_neg (show ¬ b01 true = 0 by decide), d218, m_canBe hw hW hj, kI_v]
    cases h2 : cnB w j with
    | false =>
      rw [if_pos (show b01 false = 0 from rfl)]
      exact zero (by unfold rsC; rw [h1, h2]; rfl)
    | true =>
      rw [if_neg (show ¬ b01 true = 0 by decide), ← rsL_rsC _ _ _ _ h1 h2]
      obtain ⟨S1, e1, x1⟩ := m_isHeard (Θ := Θ) (ω := ω) (n := n) (lw := lw) (a := a) hw hW hM ha h23 h24 hi hj
      obtain ⟨S2, e2, x2⟩ := m_rests_L (Θ := Θ) (ω := ω) (n := n) (lw := lw) (a := a) hW hM ha hi hj (hrT w lw a i j) 9 0 5000 S1 (by omega) (by omega) ((x1.2.1 219 (by decide) (by decide) (by decide) (by decide)).trans hw) ((x1.1 218 23 (by omega)).trans h23) ((x1.1 218 24 (by omega)).trans h24)
      refine ⟨S2, ?_, x1.trans x2⟩
      unfold J_X11_rests_21 J_X11_rests_42 J_X11_rests_43
      rw [if_neg (show ¬ (1 : Int32) = 0 by decide), d218, e1, kI_v]
      have e2 : L_X11_rests_48 Θ 5000 (gb Θ + 218) (nI a) (nI i) (nI j) 1 (b01 (hrT w lw a i j)) 0 (laz Θ S1 ω) n = _ := e2
      cases hh : hrT w lw a i j with
      | false =>
        rw [hh] at e2
        rw [if_pos (show b01 false = 0 from rfl)]
        exact e2
      | true =>
        rw [hh] at e2
        rw [if_neg (show ¬ b01 true = 0 by decide)]
        exact e2
theorem m_usher_in (hW : WB w) (hM : LawM w lw) (ha : a < 6) {K : Nat → Int32 → Int32 → Int32 → OW → Nat → RO} {i : Nat} (hi : i < 9) : ∀ (m j f c : Nat) (S : PZ), j + m = 9 → m < f → zA S 219 = w → zF S 218 23 = 0 → zF S 218 24 = 0 → ∃ S', L_X11_usher_33 Θ K f (gb Θ + 218) (nI a) (nI c) (nI i) (nI j) (laz Θ S ω) n = K (gb Θ + 218) (nI a) (nI (c + ctB (rsC (cnB w) (hrT w lw a) i) m j)) (nI (i + 1)) (laz Θ S' ω) n ∧ XP S S' := by
  intro m
  induction m with
  | zero =>
    intro j f c S h1 h2 hw h23 h24
    obtain ⟨f, rfl⟩ : ∃ g, f = g + 1 := ⟨f - 1, by omega⟩
    refine ⟨S, ?_, XP.rf S⟩
    unfold L_X11_usher_33 B_X11_usher_33
    rw [if_pos (show (8 : Int32) < nI j from nI_lt (a := 8) (by omega) (by omega)), nI_1]
    rfl
  | succ m ih =>
    intro j f c S h1 h2 hw h23 h24
    obtain ⟨f, rfl⟩ : ∃ g, f = g + 1 := ⟨f - 1, by omega⟩
    obtain ⟨S1, e1, x1⟩ := m_rests (Θ := Θ) (ω := ω) (n := n) (lw := lw) (a := a) hw hW hM ha h23 h24 hi (show j < 9 by omega)
    have w1 := (x1.2.1 219 (by decide) (by decide) (by decide) (by decide)).trans hw
    have f23 := (x1.1 218 23 (by omega)).trans h23
    have f24 := (x1.1 218 24 (by omega)).trans h24
    rw [show L_X11_usher_33 Θ K (f + 1) (gb Θ + 218) (nI a) (nI c) (nI i) (nI j) (laz Θ S ω) n = B_X11_usher_33 Θ K (L_X11_usher_33 Θ K f) (gb Θ + 218) (nI a) (nI c) (nI i) (nI j) (laz Θ S ω) n from rfl, show ctB (rsC (cnB w) (hrT w lw a) i) (m + 1) j = (if rsC (cnB w) (hrT w lw a) i j = true then 1 else 0) + ctB (rsC (cnB w) (hrT w lw a) i) m (j + 1) from rfl]
    unfold B_X11_usher_33 J_X11_usher_57
    rw [if_neg (show ¬ (8 : Int32) < nI j from nI_nlt (a := 8) (by omega) (by omega)), d218, e1, kI_v, nI_1]
    cases hh : rsC (cnB w) (hrT w lw a) i j with
    | false =>
      obtain ⟨S', e, xp⟩ := ih (j + 1) f c S1 (by omega) (by omega) w1 f23 f24
      refine ⟨S', ?_, x1.trans xp⟩
      rw [if_pos (show b01 false = 0 from rfl), Int32.add_zero, e, if_neg (show ¬ false = true by decide), Nat.zero_add]
    | true =>
      obtain ⟨S', e, xp⟩ := ih (j + 1) f (c + 1) S1 (by omega) (by omega) w1 f23 f24
      refine ⟨S', ?_, x1.trans xp⟩
      rw [if_neg (show ¬ b01 true = 0 by decide), nI_1, e, if_pos rfl, Nat.add_assoc]
theorem m_usher_L (hW : WB w) (hM : LawM w lw) (ha : a < 6) : ∀ (m i f c : Nat) (S : PZ), i + m = 9 → m < f → zA S 219 = w → zF S 218 23 = 0 → zF S 218 24 = 0 → ∃ S', L_X11_usher_24 Θ f (gb Θ + 218) (nI a) (nI c) (nI i) (laz Θ S ω) n = some (.inl (some (.int (nI (c + smN (fun t => ctB (rsC (cnB w) (hrT w lw a) t) 9 0) m i))), laz Θ S' ω, n)) ∧ XP S S' := by
  intro m
  induction m with
  | zero =>
    intro i f c S h1 h2 hw h23 h24
    obtain ⟨f, rfl⟩ : ∃ g, f = g + 1 := ⟨f - 1, by omega⟩
    refine ⟨S, ?_, XP.rf S⟩
    unfold L_X11_usher_24 B_X11_usher_24
    rw [if_pos (show (8 : Int32) < nI i from nI_lt (a := 8) (by omega) (by omega))]
    rfl
  | succ m ih =>
    intro i f c S h1 h2 hw h23 h24
    obtain ⟨f, rfl⟩ : ∃ g, f = g + 1 := ⟨f - 1, by omega⟩
    obtain ⟨S1, e1, x1⟩ := m_usher_in (Θ := Θ) (ω := ω) (n := n) (lw := lw) (a := a) hW hM ha (K := L_X11_usher_24 Θ f) (show i < 9 by omega) 9 0 5000 c S (by omega) (by omega) hw h23 h24
    obtain ⟨S2, e2, x2⟩ := ih (i + 1) f (c + ctB (rsC (cnB w) (hrT w lw a) i) 9 0) S1 (by omega) (by omega) ((x1.2.1 219 (by decide) (by decide) (by decide) (by decide)).trans hw) ((x1.1 218 23 (by omega)).trans h23) ((x1.1 218 24 (by omega)).trans h24)
    refine ⟨S2, ?_, x1.trans x2⟩
    rw [show L_X11_usher_24 Θ (f + 1) (gb Θ + 218) (nI a) (nI c) (nI i) (laz Θ S ω) n = B_X11_usher_24 Θ (L_X11_usher_24 Θ f) (gb Θ + 218) (nI a) (nI c) (nI i) (laz Θ S ω) n from rfl]
    unfold B_X11_usher_24
    have e1 : L_X11_usher_33 Θ (L_X11_usher_24 Θ f) 5000 (gb Θ + 218) (nI a) (nI c) (nI i) 0 (laz Θ S ω) n = _ := e1
    rw [if_neg (show ¬ (8 : Int32) < nI i from nI_nlt (a := 8) (by omega) (by omega)), e1, e2]
    congr 6
    show _ = c + (ctB (rsC (cnB w) (hrT w lw a) i) 9 0 + smN (fun t => ctB (rsC (cnB w) (hrT w lw a) t) 9 0) m (i + 1))
    omega
end US
