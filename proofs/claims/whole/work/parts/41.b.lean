/-! words in numbers -/
theorem lN_b (n : Nat) : (lN n).toBitVec = BitVec.ofNat 64 n := rfl
theorem lN_sh8 (a : Nat) {b : Nat} (hb : b < 256) : (lN a <<< (Int32.toInt64 8 &&& 63)) ||| (nI b).toInt64 = lN (a * 256 + b) := by
  have e1 : (nI b).toInt64 = lN b := nI_l (by omega)
  have e2 : (Int32.toInt64 8 &&& 63) = (8 : Int64) := by decide
  have e3 : ((8 : Int64).toBitVec.smod 64) = 8#64 := by decide
  rw [e1, e2]
  apply Int64.toBitVec_inj.mp
  rw [Int64.toBitVec_or, Int64.toBitVec_shiftLeft, lN_b, lN_b, lN_b, e3, BitVec.shiftLeft_eq']
  apply BitVec.eq_of_toNat_eq
  rw [BitVec.toNat_or, BitVec.toNat_shiftLeft, BitVec.toNat_ofNat, BitVec.toNat_ofNat, BitVec.toNat_ofNat, BitVec.toNat_ofNat, show 8 % 2 ^ 64 = 8 by decide]
  have h1 : (a % 2 ^ 64) <<< 8 % 2 ^ 64 = 2 ^ 8 * (a % 2 ^ 56) := by rw [Nat.shiftLeft_eq]; omega
  rw [h1, Nat.mod_eq_of_lt (show b < 2 ^ 64 by omega), ← Nat.two_pow_add_eq_or_of_lt (show b < 2 ^ 8 by omega) (a % 2 ^ 56)]
  omega
def nwd (f : Nat → Nat) : Nat → Nat → Nat → Nat
  | 0, _, a => a
  | k + 1, i, a => nwd f k (i + 1) (a * 256 + f i)
theorem nwd_snoc (f : Nat → Nat) : ∀ k i a, nwd f (k + 1) i a = nwd f k i a * 256 + f (i + k) := by
  intro k
  induction k with
  | zero => intro i a; rfl
  | succ k ih =>
    intro i a
    show nwd f (k + 1) (i + 1) (a * 256 + f i) = nwd f k (i + 1) (a * 256 + f i) * 256 + f (i + (k + 1))
    rw [ih (i + 1), show i + 1 + k = i + (k + 1) by omega]
theorem nwd_mod (f g : Nat → Nat) (q : Nat) : ∀ (m k e : Nat), m < e → (∀ i, i < k → 1 ≤ f (q + i) ∧ f (q + i) < 256) → (∀ i, i < m → 1 ≤ g i ∧ g i < 256) → nwd f k q 0 % 256 ^ e = nwd g m 0 0 → k = m ∧ ∀ i, i < m → f (q + i) = g i := by
  have key : ∀ A d e, d < 256 → (A * 256 + d) % 256 ^ (e + 1) = (A % 256 ^ e) * 256 + d := by
    intro A d e hd
    rw [show 256 ^ (e + 1) = 256 * 256 ^ e by rw [Nat.pow_succ, Nat.mul_comm], Nat.mod_mul]
    have h1 : (A * 256 + d) % 256 = d := by omega
    have h2 : (A * 256 + d) / 256 = A := by omega
    rw [h1, h2, Nat.mul_comm 256]
    omega
  intro m
  induction m with
  | zero =>
    intro k e he hf hg h
    refine ⟨?_, fun i hi => by omega⟩
    cases k with
    | zero => rfl
    | succ k =>
      exfalso
      obtain ⟨e, rfl⟩ : ∃ e', e = e' + 1 := ⟨e - 1, by omega⟩
      have hk := hf k (by omega)
      rw [nwd_snoc, key _ _ _ hk.2] at h
      have h : nwd f k q 0 % 256 ^ e * 256 + f (q + k) = 0 := h
      omega
  | succ m ih =>
    intro k e he hf hg h
    obtain ⟨e, rfl⟩ : ∃ e', e = e' + 1 := ⟨e - 1, by omega⟩
    have hm := hg m (by omega)
    rw [nwd_snoc g, Nat.zero_add] at h
    cases k with
    | zero =>
      exfalso
      have h : 0 % 256 ^ (e + 1) = nwd g m 0 0 * 256 + g m := h
      rw [Nat.zero_mod] at h
      omega
    | succ k =>
      have hk := hf k (by omega)
      rw [nwd_snoc, key _ _ _ hk.2] at h
      obtain ⟨h1, h2⟩ := ih k e (by omega) (fun i hi => hf i (by omega)) (fun i hi => hg i (by omega)) (by omega)
      subst h1
      refine ⟨rfl, fun i hi => ?_⟩
      by_cases z : i = k
      · subst z; omega
      · exact h2 i (by omega)
theorem nwd_lt (g : Nat → Nat) : ∀ m, (∀ i, i < m → g i < 256) → nwd g m 0 0 < 256 ^ m := by
  intro m
  induction m with
  | zero => intro _; exact Nat.one_pos
  | succ m ih =>
    intro h
    have h1 := ih (fun i hi => h i (by omega))
    have h2 := h m (by omega)
    rw [nwd_snoc, Nat.zero_add, Nat.pow_succ]
    have : (nwd g m 0 0 + 1) * 256 ≤ 256 ^ m * 256 := Nat.mul_le_mul_right _ h1
    omega
theorem nwd_congr {f g : Nat → Nat} {q : Nat} : ∀ k, (∀ i, i < k → f (q + i) = g i) → nwd f k q 0 = nwd g k 0 0 := by
  intro k
  induction k with
  | zero => intro _; rfl
  | succ k ih =>
    intro h
    rw [nwd_snoc, nwd_snoc, ih (fun i hi => h i (by omega)), h k (by omega), Nat.zero_add]
/-- the words of both texts -/
def wsL : List (List Nat) := [[106, 101, 114, 107], [97, 116], [119, 111, 114, 110], [110, 101, 114, 118, 101], [100, 105, 100], [107, 110, 111, 119, 115], [112, 114, 111, 112], [97, 99, 99, 117, 115, 101, 100], [99, 97, 108, 109], [101, 99, 104, 111], [100, 97, 121], [115, 108, 111, 116], [116, 101, 110, 115, 101], [103, 117, 105, 108, 116, 121], [110, 111, 116], [97, 110, 100], [111, 114], [102, 114, 105, 103, 104, 116], [101, 97, 115, 101], [119, 101, 97, 114], [105, 102]]
def wsN (s i : Nat) : Nat := (wsL.getD s []).getD i 0
def wsE (s : Nat) : Nat := (wsL.getD s []).length
theorem wsN_r : ∀ s, s < 21 → ∀ i, i < wsE s → 97 ≤ wsN s i ∧ wsN s i ≤ 122 := by decide
theorem wsE_r : ∀ s, s < 21 → 1 ≤ wsE s ∧ wsE s < 8 := by decide
theorem lenF_t : ∀ s, s < 21 → lenF s = nI (wsE s) := by decide +kernel
theorem chF_t : ∀ s, s < 21 → ∀ i, i < wsE s → chF s i = nI (wsN s i) := by decide +kernel
theorem lens_t : ∀ s, s < 21 → g_lens.getD s 0 = wsE s := by decide
/-- the word s stands at q -/
def isWd (x : TX) (q s : Nat) : Bool := decide (weT x q - q = wsE s ∧ ∀ i, i < wsE s → x.2 (q + i) = wsN s i)
def wdS (s : Nat) : Int64 := lN (nwd (wsN s) (wsE s) 0 0)
theorem wdF_nat (x : TX) : ∀ k i a, (∀ j, i ≤ j → j < i + k → x.2 j < 256) → wdF x k i (lN a) = lN (nwd x.2 k i a) := by
  intro k
  induction k with
  | zero => intro i a _; rfl
  | succ k ih =>
    intro i a h
    show wdF x k (i + 1) ((lN a <<< (Int32.toInt64 8 &&& 63)) ||| (nI (x.2 i)).toInt64) = lN (nwd x.2 k (i + 1) (a * 256 + x.2 i))
    rw [lN_sh8 a (h i (Nat.le_refl _) (by omega)), ih (i + 1) _ (fun j h1 h2 => h j (by omega) (by omega))]
theorem lN_mod {a b : Nat} (h : lN a = lN b) : a % 2 ^ 64 = b % 2 ^ 64 := by
  have e := congrArg (fun z : Int64 => z.toBitVec.toNat) h
  have e : (lN a).toBitVec.toNat = (lN b).toBitVec.toNat := e
  rw [lN_b, lN_b, BitVec.toNat_ofNat, BitVec.toNat_ofNat] at e
  exact e
theorem tkW_iff {x : TX} (h : ∀ i, i < x.1 → x.2 i ≤ 255) {q s : Nat} (hq : q ≤ x.1) (hs : s < 21) : tkW x q = wdS s ↔ isWd x q s = true := by
  have hE := wsE_r s hs
  have hN := wsN_r s hs
  have hw := weT_b hq
  have hlt : nwd (wsN s) (wsE s) 0 0 < 256 ^ 7 := Nat.lt_of_lt_of_le (nwd_lt _ _ (fun i hi => by have := hN i hi; omega)) (Nat.pow_le_pow_right (by omega) (by omega))
  have h264 : nwd (wsN s) (wsE s) 0 0 < 2 ^ 64 := Nat.lt_of_lt_of_le hlt (by decide)
  have hin : ∀ i, i < weT x q - q → 97 ≤ x.2 (q + i) ∧ x.2 (q + i) ≤ 122 := fun i hi => by
    have := of_decide_eq_true (rnB_in (ltP x) (x.1 - q) q (q + i) (by omega) (by unfold weT at hi; omega))
    exact ⟨this.2.1, this.2.2⟩
  unfold isWd
  rw [decide_eq_true_iff]
  by_cases z : ltP x q = true
  · have e : tkW x q = lN (nwd x.2 (weT x q - q) q 0) := by
      unfold tkW
      rw [if_pos z]
      exact wdF_nat x _ q 0 (fun j h1 h2 => by have := hin (j - q) (by omega); rw [show q + (j - q) = j by omega] at this; omega)
    rw [e]
    constructor
    · intro u
      have hm := lN_mod u
      rw [Nat.mod_eq_of_lt h264, show (2 : Nat) ^ 64 = 256 ^ 8 by decide] at hm
      obtain ⟨h1, h2⟩ := nwd_mod x.2 (wsN s) q (wsE s) (weT x q - q) 8 (by omega) (fun i hi => by have := hin i hi; omega) (fun i hi => by have := hN i hi; omega) hm
      exact ⟨h1, h2⟩
    · rintro ⟨h1, h2⟩
      unfold wdS
      rw [h1, nwd_congr _ h2]
  · have e : tkW x q = 0 := by unfold tkW; rw [if_neg z]
    rw [e]
    constructor
    · intro u
      exfalso
      have u : lN 0 = lN (nwd (wsN s) (wsE s) 0 0) := u
      have hm := lN_mod u
      rw [Nat.zero_mod, Nat.mod_eq_of_lt h264] at hm
      obtain ⟨m, hm'⟩ : ∃ m, wsE s = m + 1 := ⟨wsE s - 1, by omega⟩
      rw [hm', nwd_snoc] at hm
      have := hN (0 + m) (by omega)
      omega
    · rintro ⟨h1, _⟩
      rw [weT_n (Bool.eq_false_iff.mpr z)] at h1
      omega
