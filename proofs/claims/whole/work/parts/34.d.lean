/-! promise 2: feed -/
def by4 (x : Int32) (i : Nat) : Int32 := (x >>> (nI (24 - 8 * i) &&& 31)) &&& 255
def nb4 (x : Int32) (i : Nat) : Int32 := vp_nar .byte ((x >>> (nI (24 - 8 * i) &&& 31)).toInt8.toInt32)
theorem i8_dec : ∀ k, k < 256 → (Int8.ofNat k).toInt32 &&& 255 = nI k ∧ (Int8.ofNat k).toInt32 = (if k < 128 then nI k else nI k - 256) ∧ (Int8.ofNat k).toInt32.toInt8.toInt32 = (Int8.ofNat k).toInt32 := by decide +kernel
theorem i8_of (z : Int8) : ∃ k, k < 256 ∧ z = Int8.ofNat k := ⟨z.toBitVec.toNat, z.toBitVec.isLt, Int8.toBitVec_inj.mp (by show _ = BitVec.ofNat 8 _; simp)⟩
theorem by_nb (x : Int32) (i : Nat) : byR (by4 x i) (nb4 x i) := by
  unfold by4 nb4
  generalize x >>> (nI (24 - 8 * i) &&& 31) = y
  obtain ⟨k, hk, e⟩ := i8_of y.toInt8
  obtain ⟨h1, h2, h3⟩ := i8_dec k hk
  refine ⟨k, by omega, ?_, ?_⟩
  · rw [← bp_b, e, h1]
  · show (y.toInt8.toInt32).toInt8.toInt32 = _
    rw [e, h3, h2]
def put4 (f : Nat → Int32) (len : Nat) (x : Int32) : Nat → Int32 := fun j => if len ≤ j ∧ j < len + 4 then by4 x (j - len) else f j
theorem uF_uF (S : PZ) (k j : Nat) (v u : Int32) : uF (uF S k j v) k j u = uF S k j u := by
  unfold uF
  refine Prod.ext ?_ rfl
  funext a b
  show (if a = k ∧ b = j then u else (if a = k ∧ b = j then v else S.1 a b)) = if a = k ∧ b = j then u else S.1 a b
  split
  · rfl
  · rfl
theorem uA_uF (S : PZ) (k j : Nat) (v : Int32) (a : Nat) (f : Nat → Int32) : uA (uF S k j v) a f = uF (uA S a f) k j v := rfl
section FE
variable {Θ : GP} {S : PZ} {ω : OW} {n : Nat}
theorem put_step {len i : Nat} {x c : Int32} {f : Nat} (hc : c = nI (24 - 8 * i)) (hi : i < 4) {g : Nat → Int32} (h : len + 4 ≤ 400) : L_X8_put_11 Θ (f + 1) (gb Θ + 1) x c (laz Θ (uF (uA S 2 g) 1 0 (nI (len + i))) ω) n = L_X8_put_11 Θ f (gb Θ + 1) x (c + (-8)) (laz Θ (uF (uA S 2 (upd g (len + i) (by4 x i))) 1 0 (nI (len + (i + 1)))) ω) n := by
  subst hc
  show B_X8_put_11 Θ (L_X8_put_11 Θ f) (gb Θ + 1) x (nI (24 - 8 * i)) _ n = _
  unfold B_X8_put_11
  rw [if_neg (nI_pos (by omega)), a1_5, a1_0, zF_uF, if_pos ⟨rfl, rfl⟩, s_2 (by omega), a1_0, zF_uA, zF_uF, if_pos ⟨rfl, rfl⟩, nI_1, b1_0, uA_uF, uF_uF, uA_uA]
  rfl
theorem x_put {len : Nat} {x : Int32} (hl : zF S 1 0 = nI len) (h : len + 4 ≤ 400) : F_X8_put Θ (gb Θ + 1) x (laz Θ S ω) n = some (.inl (none, laz Θ (uF (uA S 2 (put4 (zA S 2) len x)) 1 0 (nI (len + 4))) ω, n)) := by
  unfold F_X8_put F_X8_hasRoom J_X8_hasRoom_17
  have e4 : nI len + 4 = nI (len + 4) := nI_add len 4
  rw [d1, a1_0, hl, e4, if_neg (show ¬ (400 : Int32) < nI (len + 4) from nI_nlt (a := 400) (by omega) (by decide)), bz_1, kI_v, if_neg (by decide)]
  have es : S = uF (uA S 2 (zA S 2)) 1 0 (nI (len + 0)) := by
    rw [uA_self, Nat.add_zero, ← hl, uF_self]
  have e0 : L_X8_put_11 Θ 5000 (gb Θ + 1) x 24 (laz Θ S ω) n = L_X8_put_11 Θ 5000 (gb Θ + 1) x 24 (laz Θ (uF (uA S 2 (zA S 2)) 1 0 (nI (len + 0))) ω) n := by rw [← es]
  rw [e0, put_step (f := 4999) (i := 0) (by decide) (by omega) h, put_step (f := 4998) (i := 1) (by decide) (by omega) h, put_step (f := 4997) (i := 2) (by decide) (by omega) h, put_step (f := 4996) (i := 3) (by decide) (by omega) h]
  show B_X8_put_11 Θ (L_X8_put_11 Θ 4995) (gb Θ + 1) x _ _ n = _
  unfold B_X8_put_11 J_X8_put_47
  rw [if_pos (by decide)]
  congr 7
  funext j
  unfold put4 upd
  by_cases q : len ≤ j ∧ j < len + 4
  · rw [if_pos q]
    have z : j = len + 0 ∨ j = len + 1 ∨ j = len + 2 ∨ j = len + 3 := by omega
    rcases z with rfl | rfl | rfl | rfl
    · rw [if_neg (by omega), if_neg (by omega), if_neg (by omega), if_pos (by omega)]; congr 1; omega
    · rw [if_neg (by omega), if_neg (by omega), if_pos rfl]; congr 1; omega
    · rw [if_neg (by omega), if_pos rfl]; congr 1; omega
    · rw [if_pos rfl]; congr 1; omega
  · rw [if_neg q, if_neg (by omega), if_neg (by omega), if_neg (by omega), if_neg (by omega)]
theorem x_feed_y {len : Nat} {a b c d e : Int32} (hl : zF S 1 0 = nI len) (h : len + 20 ≤ 400) : F_X10_feed Θ (gb Θ) a b c d e (laz Θ S ω) n = some (.inl (some (.int (nI (len + 20))), laz Θ (uF (uA S 2 (put4 (put4 (put4 (put4 (put4 (zA S 2) len a) (len + 4) b) (len + 8) c) (len + 12) d) (len + 16) e)) 1 0 (nI (len + 20))) ω, n)) := by
  unfold F_X10_feed F_X8_hasRoom J_X8_hasRoom_17
  have e4 : nI len + 20 = nI (len + 20) := nI_add len 20
  rw [r10_5, d1, a1_0, hl, e4, if_neg (show ¬ (400 : Int32) < nI (len + 20) from nI_nlt (a := 400) (by omega) (by decide)), bz_1, kI_v, if_neg (by decide), r10_5, d1, x_put hl (by omega), kV_v, r10_5, d1, x_put (len := len + 4) rfl (by omega), kV_v, uA_uF, uA_uA, uF_uF, r10_5, d1, x_put (len := len + 8) rfl (by omega), kV_v, uA_uF, uA_uA, uF_uF, r10_5, d1, x_put (len := len + 12) rfl (by omega), kV_v, uA_uF, uA_uA, uF_uF, r10_5, d1, x_put (len := len + 16) rfl (by omega), kV_v, uA_uF, uA_uA, uF_uF, r10_5, a1_0, zF_uF, if_pos ⟨rfl, rfl⟩]
  rfl
def fiv (a b c d e : Int32) (q : Nat) : Int32 := if q = 0 then a else if q = 1 then b else if q = 2 then c else if q = 3 then d else e
theorem m_feed_L {len : Nat} (hl : zF S 218 9 = nI len) (h : len + 20 ≤ 400) : ∀ (k p f : Nat) (g : Nat → Int32), p + k = 20 → k < f → L_X11_feed_60 Θ f (gb Θ + 218) (nI p) (laz Θ (uA S 224 g) ω) n = some (.inl (some (.int (nI (len + 20))), laz Θ (uF (uA S 224 (fun j => if len + p ≤ j ∧ j < len + 20 then nb4 (zA S 225 ((j - len) / 4)) ((j - len) % 4) else g j)) 218 9 (nI (len + 20))) ω, n)) := by
  intro k
  induction k with
  | zero =>
    intro p f g h2 h3
    obtain ⟨f, rfl⟩ : ∃ g, f = g + 1 := ⟨f - 1, by omega⟩
    unfold L_X11_feed_60 B_X11_feed_60
    have e4 : nI len + 20 = nI (len + 20) := nI_add len 20
    have e : (fun j => if len + p ≤ j ∧ j < len + 20 then nb4 (zA S 225 ((j - len) / 4)) ((j - len) % 4) else g j) = g := by
      funext j
      rw [if_neg (by omega)]
    rw [if_pos (show (20 : Int32) ≤ nI p from nI_le (a := 20) (by omega) (by omega)), a218_9, zF_uA, hl, e4, b218_9, a218_9, zF_uF, if_pos ⟨rfl, rfl⟩, e]
  | succ k ih =>
    intro p f g h2 h3
    obtain ⟨f, rfl⟩ : ∃ g, f = g + 1 := ⟨f - 1, by omega⟩
    unfold L_X11_feed_60 B_X11_feed_60
    have q1 : nI p / 4 = nI (p / 4) := nI_div (b := 4) (by omega) (by decide)
    have q2 : nI p - nI (p / 4) * 4 = nI (p % 4) := by
      have := nI_rem (a := p) (k := 4) (by omega) (by decide)
      rw [nI_div (by omega) (by decide)] at this
      exact this
    have q3 : (24 : Int32) - 8 * nI (p % 4) = nI (24 - 8 * (p % 4)) := by
      show nI 24 - nI 8 * nI (p % 4) = _
      rw [nI_mul, nI_sub (by omega)]
    rw [if_neg (show ¬ (20 : Int32) ≤ nI p from nI_ge (b := 20) (by omega) (by omega)), a218_8, a218_9, zF_uA, hl, a218_15, q1, l_225 (by omega), zA_uA, if_neg (by decide), q2, q3, nI_add, s_224 (by omega), uA_uA, nI_1, ih (p + 1) f _ (by omega) (by omega), zA_uA, if_pos rfl]
    congr 7
    funext j
    unfold upd
    by_cases hj : j = len + p
    · subst hj
      rw [if_neg (by omega), if_pos rfl, if_pos (by omega), show len + p - len = p by omega]
      rfl
    · by_cases hq : len + p ≤ j ∧ j < len + 20
      · rw [if_pos (by omega), if_pos hq]
      · rw [if_neg (by omega), if_neg hj, if_neg hq]
end FE
theorem pc0 (Θ : GP) : PC_0 Θ (gb Θ) (gb Θ + 218) (gb Θ + 234) (Inv Θ) := by
  intro v xs i hI
  obtain ⟨S, ω, rfl, hC, hI⟩ := hI
  obtain ⟨len, l1, l2, l3⟩ := hC.2.1
  show stI _ _ (fun ω n => F_X10_feed Θ (gb Θ) (xs (i + 1)) (xs (i + 2)) (xs (i + 3)) (xs (i + 4)) (xs (i + 5)) ω n) (fun ω n => F_X11_feed Θ (gb Θ + 218) (xs (i + 1)) (xs (i + 2)) (xs (i + 3)) (xs (i + 4)) (xs (i + 5)) ω n) _ _
  generalize xs (i + 1) = a
  generalize xs (i + 2) = b
  generalize xs (i + 3) = c
  generalize xs (i + 4) = d
  generalize xs (i + 5) = e
  have e4 : nI len + 20 = nI (len + 20) := nI_add len 20
  by_cases h : len + 20 ≤ 400
  · let S1 := uF (uA S 2 (put4 (put4 (put4 (put4 (put4 (zA S 2) len a) (len + 4) b) (len + 8) c) (len + 12) d) (len + 16) e)) 1 0 (nI (len + 20))
    let S2 := uA (uF S1 218 0 0) 225 (upd (upd (upd (upd (upd (zA S 225) 0 a) 1 b) 2 c) 3 d) 4 e)
    let t' : Nat → Int32 := fun j => if len + 0 ≤ j ∧ j < len + 20 then nb4 (zA S2 225 ((j - len) / 4)) ((j - len) % 4) else zA S 224 j
    refine fin_I fun n _ => ⟨nI (len + 20), S1, ω, n, x_feed_y l2 h, fun n2 => ⟨uF (uA S2 224 t') 218 9 (nI (len + 20)), n2, ?_, ?_, ?_⟩⟩
    · show F_X11_feed Θ (gb Θ + 218) a b c d e (laz Θ S1 ω) n2 = _
      unfold F_X11_feed
      have g9 : zF (uF S1 218 0 0) 218 9 = nI len := l3
      rw [b218_0, a218_9, g9, e4, if_pos (show nI (len + 20) ≤ 400 from nI_le (b := 400) (by omega) (by decide)), a218_15, sI_lit, s_225 (by decide), a218_15, sI_lit, s_225 (by decide), uA_uA, a218_15, sI_lit, s_225 (by decide), uA_uA, a218_15, sI_lit, s_225 (by decide), uA_uA, a218_15, sI_lit, s_225 (by decide), uA_uA]
      have e := m_feed_L (Θ := Θ) (ω := ω) (n := n2) (S := S2) (len := len) l3 h 20 0 5000 (zA S 224) (by omega) (by omega)
      rw [show uA S2 224 (zA S 224) = S2 from uA_self S2 224] at e
      exact e
    · refine hC.kt (((((((KK.rf S).nA rfl).nF rfl).nF rfl).nA rfl).nA rfl).nF rfl) ⟨len + 20, h, rfl, rfl⟩ ?_ hC.2.2.2.1
      intro j hj
      show byR (put4 (put4 (put4 (put4 (put4 (zA S 2) len a) (len + 4) b) (len + 8) c) (len + 12) d) (len + 16) e j) (t' j)
      by_cases hq : len ≤ j ∧ j < len + 20
      · have et : t' j = nb4 (zA S2 225 ((j - len) / 4)) ((j - len) % 4) := if_pos hq
        rw [et]
        have z : (j - len) / 4 = 0 ∨ (j - len) / 4 = 1 ∨ (j - len) / 4 = 2 ∨ (j - len) / 4 = 3 ∨ (j - len) / 4 = 4 := by omega
        unfold put4
        rcases z with z | z | z | z | z
        · rw [if_neg (by omega), if_neg (by omega), if_neg (by omega), if_neg (by omega), if_pos (by omega), z, show (j - len) % 4 = j - len by omega]
          exact by_nb a _
        · rw [if_neg (by omega), if_neg (by omega), if_neg (by omega), if_pos (by omega), z, show j - (len + 4) = (j - len) % 4 by omega]
          exact by_nb b _
        · rw [if_neg (by omega), if_neg (by omega), if_pos (by omega), z, show j - (len + 8) = (j - len) % 4 by omega]
          exact by_nb c _
        · rw [if_neg (by omega), if_pos (by omega), z, show j - (len + 12) = (j - len) % 4 by omega]
          exact by_nb d _
        · rw [if_pos (by omega), z, show j - (len + 16) = (j - len) % 4 by omega]
          exact by_nb e _
      · have et : t' j = zA S 224 j := if_neg hq
        rw [et]
        unfold put4
        rw [if_neg (by omega), if_neg (by omega), if_neg (by omega), if_neg (by omega), if_neg (by omega)]
        exact hC.2.2.1 j hj
    · exact (((((hI.nA (by omega)).nF (by omega)).nF (by omega)).nA (by omega)).nA (by omega)).nF (by omega)
  · refine fin_I fun n _ => ⟨-1, S, ω, n, ?_, fun n2 => ⟨uF S 218 0 0, n2, ?_, hC.thr, hI.thr⟩⟩
    · show F_X10_feed Θ (gb Θ) a b c d e (laz Θ S ω) n = _
      unfold F_X10_feed F_X8_hasRoom J_X8_hasRoom_17
      rw [r10_5, d1, a1_0, l2, e4, if_pos (show (400 : Int32) < nI (len + 20) from nI_lt (a := 400) (by omega) (by omega)), bz_0, kI_v, if_pos rfl]
    · show F_X11_feed Θ (gb Θ + 218) a b c d e (laz Θ S ω) n2 = _
      unfold F_X11_feed
      rw [b218_0, a218_9, show zF (uF S 218 0 0) 218 9 = nI len from l3, e4, if_neg (show ¬ nI (len + 20) ≤ 400 from nI_ge (a := 400) (by omega) (by omega))]
