/-! texts: the reference's reading -/
/-- where it reads, where the last thing begins -/
def mT (S : PZ) (p b : Nat) : PZ := uF (uF S 218 10 (nI p)) 218 12 (nI b)
theorem mT_p (S : PZ) (p b : Nat) : zF (mT S p b) 218 10 = nI p := by unfold mT; rw [zF_ne _ _ (by omega), zF_eq]
theorem mT_b (S : PZ) (p b : Nat) : zF (mT S p b) 218 12 = nI b := by unfold mT; rw [zF_eq]
theorem mT_ne (S : PZ) (p b : Nat) {k j : Nat} (h : ¬ (k = 218 ∧ (j = 10 ∨ j = 12))) : zF (mT S p b) k j = zF S k j := by unfold mT; rw [zF_ne _ _ (by omega), zF_ne _ _ (by omega)]
theorem mT_up (S : PZ) (p b p' : Nat) : uF (mT S p b) 218 10 (nI p') = mT S p' b := by
  unfold mT
  rw [uF_comm _ _ _ (show ¬ (218 = 218 ∧ 12 = 10) by omega), uF_uF]
theorem mT_ub (S : PZ) (p b b' : Nat) : uF (mT S p b) 218 12 (nI b') = mT S p b' := by
  unfold mT
  rw [uF_uF]
theorem mT_A (S : PZ) (p b k : Nat) : zA (mT S p b) k = zA S k := rfl
/-- the reference's tape holds the text -/
def MTx (S : PZ) (x : TX) : Prop := zF S 218 11 = nI x.1 ∧ x.1 ≤ 400 ∧ ∀ i, i < x.1 → x.2 i ≤ 255 ∧ zA S 224 i = (if x.2 i < 128 then nI (x.2 i) else nI (x.2 i) - 256)
theorem by_in {k lo hi : Nat} (hk : k ≤ 255) (hlo : 1 ≤ lo) (hl2 : lo ≤ 127) (hhi : hi ≤ 127) : (¬ (if k < 128 then nI k else nI k - 256) < nI lo ∧ ¬ nI hi < (if k < 128 then nI k else nI k - 256)) ↔ (lo ≤ k ∧ k ≤ hi) := by
  by_cases z : k < 128
  · rw [if_pos z, nI_ltI (by omega) (by omega), nI_ltI (by omega) (by omega)]; omega
  · rw [if_neg z]
    have h := by_neg k (by omega) (by omega)
    constructor
    · rintro ⟨h1, _⟩
      exfalso
      apply h1
      have h0 : (0 : Int32) < nI lo := nI_lt (a := 0) (by omega) (by omega)
      rw [Int32.lt_iff_toInt_lt] at *
      omega
    · omega
section MS
variable {Θ : GP} {S : PZ} {ω : OW} {n : Nat} {x : TX}
theorem m_isAt (h : MTx S x) {p b lo hi : Nat} (hp : p ≤ x.1) (hlo : 1 ≤ lo) (hl2 : lo ≤ 127) (hhi : hi ≤ 127) : F_X11_isAt Θ (gb Θ + 218) (nI lo) (nI hi) (laz Θ (mT S p b) ω) n = some (.inl (some (.int (b01 (decide (p < x.1 ∧ lo ≤ x.2 p ∧ x.2 p ≤ hi)))), laz Θ (mT S p b) ω, n)) := by
  have h4 := h.2.1
  unfold F_X11_isAt J_X11_isAt_41 J_X11_isAt_42
  rw [a218_10, mT_p, a218_11, mT_ne _ _ _ (by omega), h.1]
  by_cases z : p < x.1
  · obtain ⟨hb1, hb2⟩ := h.2.2 p z
    have hi' := by_in hb1 hlo hl2 hhi
    rw [if_neg (nI_ge z (by omega)), a218_8, a218_10, mT_p, l_224 (by omega), mT_A, hb2]
    by_cases y : (if x.2 p < 128 then nI (x.2 p) else nI (x.2 p) - 256) < nI lo
    · rw [if_pos y, bz_0, decide_eq_false (fun u => (hi'.mpr ⟨u.2.1, u.2.2⟩).1 y)]; rfl
    · rw [if_neg y, a218_8, a218_10, mT_p, l_224 (by omega), mT_A, hb2]
      by_cases v : nI hi < (if x.2 p < 128 then nI (x.2 p) else nI (x.2 p) - 256)
      · rw [if_pos v, bz_0, decide_eq_false (fun u => (hi'.mpr ⟨u.2.1, u.2.2⟩).2 v)]; rfl
      · rw [if_neg v, bz_1, decide_eq_true (⟨z, hi'.mp ⟨y, v⟩⟩ : p < x.1 ∧ lo ≤ x.2 p ∧ x.2 p ≤ hi)]; rfl
  · rw [if_pos (nI_le (by omega) (by omega)), bz_0, decide_eq_false (fun u => z u.1)]; rfl
theorem m_blanks_L (h : MTx S x) {b : Nat} : ∀ (k p f : Nat), p + k = x.1 → k < f → L_X11_blanks_0 Θ f (gb Θ + 218) (laz Θ (mT S p b) ω) n = some (.inl (none, laz Θ (mT S (skT x p) (skT x p)) ω, n)) := by
  intro k
  induction k with
  | zero =>
    intro p f h1 h2
    obtain ⟨f, rfl⟩ : ∃ g, f = g + 1 := ⟨f - 1, by omega⟩
    have ea := m_isAt (Θ := Θ) (ω := ω) (n := n) h (p := p) (b := b) (lo := 32) (hi := 32) (by omega) (by omega) (by omega) (by omega)
    have ea : F_X11_isAt Θ (gb Θ + 218) 32 32 (laz Θ (mT S p b) ω) n = _ := ea
    unfold L_X11_blanks_0 B_X11_blanks_0
    rw [d218, ea, kI_v, decide_eq_false (fun u => by omega), if_pos (show b01 false = 0 from rfl), a218_10, mT_p, b218_12, mT_ub, skT_n (blP_o x p (by omega))]
  | succ k ih =>
    intro p f h1 h2
    obtain ⟨f, rfl⟩ : ∃ g, f = g + 1 := ⟨f - 1, by omega⟩
    have ea := m_isAt (Θ := Θ) (ω := ω) (n := n) h (p := p) (b := b) (lo := 32) (hi := 32) (by omega) (by omega) (by omega) (by omega)
    have ea : F_X11_isAt Θ (gb Θ + 218) 32 32 (laz Θ (mT S p b) ω) n = _ := ea
    rw [show L_X11_blanks_0 Θ (f + 1) (gb Θ + 218) (laz Θ (mT S p b) ω) n = B_X11_blanks_0 Θ (L_X11_blanks_0 Θ f) (gb Θ + 218) (laz Θ (mT S p b) ω) n from rfl]
    unfold B_X11_blanks_0
    rw [d218, ea, kI_v]
    by_cases z : x.2 p = 32
    · have hz : blP x p = true := decide_eq_true ⟨by omega, z⟩
      rw [decide_eq_true (⟨by omega, by omega, by omega⟩ : p < x.1 ∧ 32 ≤ x.2 p ∧ x.2 p ≤ 32), if_neg (show ¬ b01 true = 0 by decide), a218_10, mT_p, nI_1, b218_10, mT_up, ih (p + 1) f (by omega) (by omega), skT_s hz]
    · have hz : blP x p = false := decide_eq_false (fun u => z u.2)
      rw [decide_eq_false (fun u => by omega), if_pos (show b01 false = 0 from rfl), a218_10, mT_p, b218_12, mT_ub, skT_n hz]
theorem m_blanks (h : MTx S x) {p b : Nat} (hp : p ≤ x.1) : F_X11_blanks Θ (gb Θ + 218) (laz Θ (mT S p b) ω) n = some (.inl (none, laz Θ (mT S (skT x p) (skT x p)) ω, n)) := by
  have h4 := h.2.1
  exact m_blanks_L h (x.1 - p) p 5000 (by omega) (by omega)
theorem m_letters_L (h : MTx S x) {b : Nat} : ∀ (k p f : Nat), p + k = x.1 → k < f → L_X11_letters_4 Θ f (gb Θ + 218) (laz Θ (mT S p b) ω) n = some (.inl (none, laz Θ (mT S (weT x p) b) ω, n)) := by
  intro k
  induction k with
  | zero =>
    intro p f h1 h2
    obtain ⟨f, rfl⟩ : ∃ g, f = g + 1 := ⟨f - 1, by omega⟩
    have ea := m_isAt (Θ := Θ) (ω := ω) (n := n) h (p := p) (b := b) (lo := 97) (hi := 122) (by omega) (by omega) (by omega) (by omega)
    have ea : F_X11_isAt Θ (gb Θ + 218) 97 122 (laz Θ (mT S p b) ω) n = _ := ea
    unfold L_X11_letters_4 B_X11_letters_4
    rw [d218, ea, kI_v, decide_eq_false (fun u => by omega), if_pos (show b01 false = 0 from rfl), weT_n (ltP_o x p (by omega))]
  | succ k ih =>
    intro p f h1 h2
    obtain ⟨f, rfl⟩ : ∃ g, f = g + 1 := ⟨f - 1, by omega⟩
    have ea := m_isAt (Θ := Θ) (ω := ω) (n := n) h (p := p) (b := b) (lo := 97) (hi := 122) (by omega) (by omega) (by omega) (by omega)
    have ea : F_X11_isAt Θ (gb Θ + 218) 97 122 (laz Θ (mT S p b) ω) n = _ := ea
    rw [show L_X11_letters_4 Θ (f + 1) (gb Θ + 218) (laz Θ (mT S p b) ω) n = B_X11_letters_4 Θ (L_X11_letters_4 Θ f) (gb Θ + 218) (laz Θ (mT S p b) ω) n from rfl]
    unfold B_X11_letters_4
    rw [d218, ea, kI_v, show decide (p < x.1 ∧ 97 ≤ x.2 p ∧ x.2 p ≤ 122) = ltP x p from rfl]
    cases hz : ltP x p with
    | true => rw [if_neg (show ¬ b01 true = 0 by decide), a218_10, mT_p, nI_1, b218_10, mT_up, ih (p + 1) f (by omega) (by omega), weT_s hz]
    | false => rw [if_pos (show b01 false = 0 from rfl), weT_n hz]
theorem m_letters (h : MTx S x) {p b : Nat} (hp : p ≤ x.1) : F_X11_letters Θ (gb Θ + 218) (laz Θ (mT S p b) ω) n = some (.inl (none, laz Θ (mT S (weT x (skT x p)) (skT x p)) ω, n)) := by
  have h4 := h.2.1
  have hq := skT_b hp
  unfold F_X11_letters
  rw [d218, m_blanks h hp, kV_v, m_letters_L h (x.1 - skT x p) (skT x p) 5000 (by omega) (by omega)]
theorem m_isWord_L (h : MTx S x) {e q s : Nat} (hs : s < 21) (he : q + wsE s ≤ x.1) : ∀ (k i f : Nat), i + k = wsE s → k + 1 < f → L_X11_isWord_24 Θ f (gb Θ + 218) s 1 (nI i) (laz Θ (mT S e q) ω) n = some (.inl (some (.int (b01 (dcC (∀ j, i ≤ j → j < wsE s → x.2 (q + j) = wsN s j)))), laz Θ (mT S e q) ω, n)) := by
  have h4 := h.2.1
  have hE := wsE_r s hs
  have hsl : ∀ kk : Int32 → RO, sL s kk = kk (nI (wsE s)) := fun kk => by unfold sL; rw [if_pos hs, lenF_t s hs]
  intro k
  induction k with
  | zero =>
    intro i f h1 h2
    obtain ⟨f, rfl⟩ : ∃ g, f = g + 1 := ⟨f - 1, by omega⟩
    unfold L_X11_isWord_24 B_X11_isWord_24 J_X11_isWord_67
    rw [if_neg (show ¬ (1 : Int32) = 0 by decide), hsl, if_pos (nI_le (by omega) (by omega)), bz_1, dcC_t (show ∀ j, i ≤ j → j < wsE s → x.2 (q + j) = wsN s j from fun j h3 h5 => by omega)]
    rfl
  | succ k ih =>
    intro i f h1 h2
    obtain ⟨f, rfl⟩ : ∃ g, f = g + 1 := ⟨f - 1, by omega⟩
    obtain ⟨hb1, hb2⟩ := h.2.2 (q + i) (by omega)
    have hw := wsN_r s hs i (by omega)
    have hsc : ∀ kk : Int32 → RO, sC s (nI i) kk = kk (nI (wsN s i)) := fun kk => by
      unfold sC
      rw [nI_clamp (by omega), lens_t s hs, if_pos ⟨hs, fun u => u.elim (nI_pos (by omega)) (fun v => by omega)⟩, chF_t s hs i (by omega)]
    rw [show L_X11_isWord_24 Θ (f + 1) (gb Θ + 218) s 1 (nI i) (laz Θ (mT S e q) ω) n = B_X11_isWord_24 Θ (L_X11_isWord_24 Θ f) (gb Θ + 218) s 1 (nI i) (laz Θ (mT S e q) ω) n from rfl]
    unfold B_X11_isWord_24 J_X11_isWord_60
    rw [if_neg (show ¬ (1 : Int32) = 0 by decide), hsl, if_neg (nI_ge (by omega) (by omega)), a218_8, a218_12, mT_b, nI_add, l_224 (by omega), mT_A, hb2, hsc, nI_1]
    by_cases z : x.2 (q + i) = wsN s i
    · rw [if_pos (show (if x.2 (q + i) < 128 then nI (x.2 (q + i)) else nI (x.2 (q + i)) - 256) = nI (wsN s i) by rw [if_pos (by omega), z]), ih (i + 1) f (by omega) (by omega), dcC_c (P := ∀ j, i + 1 ≤ j → j < wsE s → x.2 (q + j) = wsN s j) (Q := ∀ j, i ≤ j → j < wsE s → x.2 (q + j) = wsN s j) ⟨fun u j h3 h5 => by
        by_cases y : j = i
        · subst y; exact z
        · exact u j (by omega) h5, fun u j h3 h5 => u j (by omega) h5⟩]
    · have hne : ¬ (if x.2 (q + i) < 128 then nI (x.2 (q + i)) else nI (x.2 (q + i)) - 256) = nI (wsN s i) := by
        by_cases y : x.2 (q + i) < 128
        · rw [if_pos y]; exact fun u => z ((nI_eq (by omega) (by omega)).mp u)
        · rw [if_neg y]
          intro u
          have := by_neg (x.2 (q + i)) (by omega) (by omega)
          rw [u] at this
          exact nI_pos (by omega) this
      rw [if_neg hne, dcC_f (show ¬ ∀ j, i ≤ j → j < wsE s → x.2 (q + j) = wsN s j from fun u => z (u i (Nat.le_refl _) (by omega)))]
      obtain ⟨f, rfl⟩ : ∃ g, f = g + 1 := ⟨f - 1, by omega⟩
      unfold L_X11_isWord_24 B_X11_isWord_24 J_X11_isWord_67
      rw [if_pos rfl, bz_0]
      rfl
theorem m_isWord (h : MTx S x) {q s : Nat} (hs : s < 21) (hq : q ≤ x.1) : F_X11_isWord Θ (gb Θ + 218) s (laz Θ (mT S (weT x q) q) ω) n = some (.inl (some (.int (b01 (isWd x q s))), laz Θ (mT S (weT x q) q) ω, n)) := by
  have h4 := h.2.1
  have hE := wsE_r s hs
  have hw := weT_b hq
  have hsl : ∀ kk : Int32 → RO, sL s kk = kk (nI (wsE s)) := fun kk => by unfold sL; rw [if_pos hs, lenF_t s hs]
  unfold F_X11_isWord J_X11_isWord_21 isWd
  rw [a218_10, mT_p, a218_12, mT_b, hsl, nI_sub hw.1]
  by_cases z : weT x q - q = wsE s
  · have e := m_isWord_L (Θ := Θ) (ω := ω) (n := n) h (e := weT x q) (q := q) hs (by omega) (wsE s) 0 5000 (by omega) (by omega)
    have e : L_X11_isWord_24 Θ 5000 (gb Θ + 218) s 1 0 (laz Θ (mT S (weT x q) q) ω) n = _ := e
    rw [if_pos (by rw [z]), e]
    congr 5
    congr 1
    apply Bool.eq_iff_iff.mpr
    rw [dcC_iff, decide_eq_true_iff]
    exact ⟨fun u => ⟨z, fun i hi => u i (by omega) hi⟩, fun u j _ hj => u.2 j hj⟩
  · rw [if_neg (fun u => z ((nI_eq (by omega) (by omega)).mp u)), decide_eq_false (fun u => z u.1)]
    show B_X11_isWord_24 Θ (L_X11_isWord_24 Θ 4999) (gb Θ + 218) s 0 0 (laz Θ (mT S (weT x q) q) ω) n = _
    unfold B_X11_isWord_24 J_X11_isWord_67
    rw [if_pos rfl, bz_0]
    rfl
theorem m_passes (h : MTx S x) {p b s : Nat} (hs : s < 21) (hp : p ≤ x.1) : F_X11_passes Θ (gb Θ + 218) s (laz Θ (mT S p b) ω) n = some (.inl (some (.int (b01 (isWd x (skT x p) s))), laz Θ (mT S (if isWd x (skT x p) s = true then weT x (skT x p) else skT x p) (skT x p)) ω, n)) := by
  have hq := skT_b hp
  unfold F_X11_passes
  rw [d218, m_letters h hp, kV_v, d218, m_isWord h hs hq.2, kI_v]
  cases hz : isWd x (skT x p) s with
  | true => rw [if_neg (show ¬ b01 true = 0 by decide), if_pos rfl]; rfl
  | false => rw [if_pos (show b01 false = 0 from rfl), a218_12, mT_b, b218_10, mT_up, if_neg (show ¬ false = true by decide)]; rfl
theorem m_sign (h : MTx S x) {p b c : Nat} (hc : 1 ≤ c ∧ c ≤ 127) (hp : p ≤ x.1) : F_X11_sign Θ (gb Θ + 218) (nI c) (laz Θ (mT S p b) ω) n = some (.inl (some (.int (b01 (isSg x (skT x p) c))), laz Θ (mT S (if isSg x (skT x p) c = true then skT x p + 1 else skT x p) (skT x p)) ω, n)) := by
  have hq := skT_b hp
  have e : decide (skT x p < x.1 ∧ c ≤ x.2 (skT x p) ∧ x.2 (skT x p) ≤ c) = isSg x (skT x p) c := decide_eq_decide.mpr ⟨fun u => ⟨u.1, by omega⟩, fun u => ⟨u.1, by omega, by omega⟩⟩
  unfold F_X11_sign
  rw [d218, m_blanks h hp, kV_v, d218, m_isAt h hq.2 hc.1 hc.2 hc.2, kI_v, e]
  cases hz : isSg x (skT x p) c with
  | true => rw [if_neg (show ¬ b01 true = 0 by decide), a218_10, mT_p, nI_1, b218_10, mT_up, if_pos rfl]; rfl
  | false => rw [if_pos (show b01 false = 0 from rfl), if_neg (show ¬ false = true by decide)]; rfl
end MS
