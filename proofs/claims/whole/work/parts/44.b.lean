/-! what each constructor leaves -/
abbrev zR' (Θ : GP) (N : Nat) : va_E := .inl (gI Θ, N, .inl (fun _ => 0))
abbrev fR' (Θ : GP) (N : Nat) : va_E := .inl (gI Θ, N, .inl (fun j => if 0 ≤ j ∧ j < N then -1 else 0))
abbrev ct0 : va_E := .inr (0, [.int 0, .int 0, .int 0, .int 0, .int 0, .int 0, .int 0, .null, .null, .null, .null, .null, .null, .null, .null, .null, .null, .null])
def crt (Θ : GP) (b la : Nat) : List va_E := [.inr (0, [.int 0, .int 0, .int 0, .int 2, .int 10, .int 0, .int 1, .ref (b + 1), .ref (b + 2), .ref (b + 3), .ref (b + 4), .ref (b + 5), .ref (b + 6), .ref (b + 7), .ref (b + 8), .ref (b + 9), .ref (b + 10), .ref la]), zR' Θ 8, zR' Θ 8, zR' Θ 8, fR' Θ 8, fR' Θ 10, zR' Θ 6, zR' Θ 6, zR' Θ 6, zR' Θ 6, .inr (4, [.int 0, .int 0, .ref (b + 11)]), zR' Θ 240]
section MK
variable {Θ : GP} {ω : OW} {b n : Nat} {cs : List va_E} {h : va_E}
theorem i4 (n : Nat) (ω : OW) : F_X4_init Θ n (pt ω n [.inr (4, [.int 0, .int 0, .null])]) (n + 1) = some (.inl (none, pt ω n [.inr (4, [.int 0, .int 0, .ref (n + 1)]), zR' Θ 240], n + 2)) := by
  unfold F_X4_init
  rw [p_w (by show _ < 3; decide), p_w (by show _ < 3; decide), p_n (by exact rfl), p_w (by show _ < 3; decide)]
  rfl
theorem i0 (n la : Nat) (ω : OW) : F_X0_init Θ n la (pt ω n [ct0]) (n + 1) = some (.inl (none, pt ω n (crt Θ n la), n + 12)) := by
  unfold F_X0_init ct0
  rw [p_w (by show _ < 18; decide), p_w (by show _ < 18; decide), p_w (by show _ < 18; decide), p_w (by show _ < 18; decide), p_w (by show _ < 18; decide), p_w (by show _ < 18; decide), p_w (by show _ < 18; decide),
    p_n (by exact rfl), p_w (by show _ < 18; decide), p_n (by exact rfl), p_w (by show _ < 18; decide), p_n (by exact rfl), p_w (by show _ < 18; decide), p_n (by exact rfl), p_w (by show _ < 18; decide), p_n (by exact rfl), p_w (by show _ < 18; decide), p_n (by exact rfl), p_w (by show _ < 18; decide), p_n (by exact rfl), p_w (by show _ < 18; decide), p_n (by exact rfl), p_w (by show _ < 18; decide), p_n (by exact rfl), p_w (by show _ < 18; decide),
    p_n (by exact rfl), p_in (F := F_X4_init Θ) (i4 _) (by exact rfl), kC_v, p_w (by show _ < 18; decide), p_w (by show _ < 18; decide), p_r (by exact rfl), p_f 3 (by exact rfl) (by exact rfl) (by decide), kV_v, p_r (by exact rfl), p_f 4 (by exact rfl) (by exact rfl) (by decide), kV_v]
  rfl
theorem in0 {la : Nat} (hn : n = b + (cs.length + 1)) : F_X0_init Θ n la (pt ω b (h :: (cs ++ [ct0]))) (n + 1) = some (.inl (none, pt ω b (h :: (cs ++ crt Θ n la)), n + 12)) := p_in (F := fun a ω n => F_X0_init Θ a la ω n) (i0 n la) hn
theorem i1 (n p q : Nat) (ω : OW) : F_X1_init Θ n p q (pt ω n [.inr (1, [.null, .null])]) (n + 1) = some (.inl (none, pt ω n [.inr (1, [.ref p, .ref q])], n + 1)) := by
  unfold F_X1_init
  rw [p_w (by show _ < 2; decide), p_w (by show _ < 2; decide)]
  rfl
theorem in1 {p q : Nat} (hn : n = b + (cs.length + 1)) : F_X1_init Θ n p q (pt ω b (h :: (cs ++ [.inr (1, [.null, .null])]))) (n + 1) = some (.inl (none, pt ω b (h :: (cs ++ [.inr (1, [.ref p, .ref q])])), n + 1)) := p_in (F := fun a ω n => F_X1_init Θ a p q ω n) (i1 n p q) hn
def lwt (Θ : GP) (n p : Nat) : List va_E := [.inr (3, [.ref p, .int 0, .int 0, .ref (n + 1), .ref (n + 2), .ref (n + 3), .ref (n + 4)]), zR' Θ 12, zR' Θ 12, zR' Θ 13, zR' Θ 408]
theorem i3 (n p : Nat) (ω : OW) : F_X3_init Θ n p (pt ω n [.inr (3, [.null, .int 0, .int 0, .null, .null, .null, .null])]) (n + 1) = some (.inl (none, pt ω n (lwt Θ n p), n + 5)) := by
  unfold F_X3_init
  rw [p_w (by show _ < 7; decide), p_w (by show _ < 7; decide), p_n (by exact rfl), p_w (by show _ < 7; decide), p_n (by exact rfl), p_w (by show _ < 7; decide), p_n (by exact rfl), p_w (by show _ < 7; decide), p_n (by exact rfl), p_w (by show _ < 7; decide), p_w (by show _ < 7; decide)]
  rfl
theorem in3 {p : Nat} (hn : n = b + (cs.length + 1)) : F_X3_init Θ n p (pt ω b (h :: (cs ++ [.inr (3, [.null, .int 0, .int 0, .null, .null, .null, .null])]))) (n + 1) = some (.inl (none, pt ω b (h :: (cs ++ lwt Θ n p)), n + 5)) := p_in (F := fun a ω n => F_X3_init Θ a p ω n) (i3 n p) hn
abbrev rid0 : va_E := .inr (6, [.null, .null, .null, .int 0, .int 0, .int 0, .int 0, .int 0, .int 0, .int 0, .null, .null, .int 0, .int 0, .null])
def rid (Θ : GP) (n p : Nat) : List va_E := [.inr (6, [.ref p, .ref (n + 1), .ref (n + 2), .int 0, .int 0, .int 0, .int (-1), .int 1, .int (-1), .int 0, .ref (n + 3), .ref (n + 4), .int 0, .int 0, .ref (n + 5)]), zR' Θ 10, zR' Θ 8, zR' Θ 10, zR' Θ 10, zR' Θ 8]
theorem i6 (n p : Nat) (ω : OW) : F_X6_init Θ n p (pt ω n [rid0]) (n + 1) = some (.inl (none, pt ω n (rid Θ n p), n + 6)) := by
  unfold F_X6_init rid0
  rw [p_n (by exact rfl), p_w (by show _ < 15; decide), p_n (by exact rfl), p_w (by show _ < 15; decide), p_w (by show _ < 15; decide), p_w (by show _ < 15; decide), p_w (by show _ < 15; decide), p_w (by show _ < 15; decide), p_w (by show _ < 15; decide), p_w (by show _ < 15; decide), p_w (by show _ < 15; decide), p_n (by exact rfl), p_w (by show _ < 15; decide), p_n (by exact rfl), p_w (by show _ < 15; decide), p_w (by show _ < 15; decide), p_w (by show _ < 15; decide), p_n (by exact rfl), p_w (by show _ < 15; decide), p_w (by show _ < 15; decide)]
  rfl
theorem in6 {p : Nat} (hn : n = b + (cs.length + 1)) : F_X6_init Θ n p (pt ω b (h :: (cs ++ [rid0]))) (n + 1) = some (.inl (none, pt ω b (h :: (cs ++ rid Θ n p)), n + 6)) := p_in (F := fun a ω n => F_X6_init Θ a p ω n) (i6 n p) hn
def sus (Θ : GP) (n : Nat) : List va_E := [.inr (7, [.ref (n + 1), .ref (n + 2), .ref (n + 3)]), .inl (gZ Θ, 64, .inl (fun _ => 0)), zR' Θ 640, zR' Θ 381]
theorem i7 (n : Nat) (ω : OW) : F_X7_init Θ n (pt ω n [.inr (7, [.null, .null, .null])]) (n + 1) = some (.inl (none, pt ω n (sus Θ n), n + 4)) := by
  unfold F_X7_init
  rw [p_n (by exact rfl), p_w (by show _ < 3; decide), p_n (by exact rfl), p_w (by show _ < 3; decide), p_n (by exact rfl), p_w (by show _ < 3; decide)]
  rfl
def tap (Θ : GP) (n : Nat) : List va_E := [.inr (8, [.int 0, .int 0, .int 0, .int 0, .long 0, .ref (n + 1)]), zR' Θ 400]
theorem i8 (n : Nat) (ω : OW) : F_X8_init Θ n (pt ω n [.inr (8, [.int 0, .int 0, .int 0, .int 0, .long 0, .null])]) (n + 1) = some (.inl (none, pt ω n (tap Θ n), n + 2)) := by
  unfold F_X8_init
  rw [p_w (by show _ < 6; decide), p_w (by show _ < 6; decide), p_w (by show _ < 6; decide), p_w (by show _ < 6; decide), p_w (by show _ < 6; decide), p_n (by exact rfl), p_w (by show _ < 6; decide)]
  rfl
def wys (Θ : GP) (n p q : Nat) : List va_E := [.inr (9, [.int 0, .ref (n + 1), .int 1, .int 0, .ref (n + 2), .ref (n + 3), .ref p, .ref q]), zR' Θ 10, zR' Θ 61, zR' Θ 61]
theorem i9 (n p q : Nat) (ω : OW) : F_X9_init Θ n p q (pt ω n [.inr (9, [.int 0, .null, .int 0, .int 0, .null, .null, .null, .null])]) (n + 1) = some (.inl (none, pt ω n (wys Θ n p q), n + 4)) := by
  unfold F_X9_init
  rw [p_w (by show _ < 8; decide), p_n (by exact rfl), p_w (by show _ < 8; decide), p_w (by show _ < 8; decide), p_w (by show _ < 8; decide), p_n (by exact rfl), p_w (by show _ < 8; decide), p_n (by exact rfl), p_w (by show _ < 8; decide), p_w (by show _ < 8; decide), p_w (by show _ < 8; decide)]
  rfl
theorem in9 {p q : Nat} (hn : n = b + (cs.length + 1)) : F_X9_init Θ n p q (pt ω b (h :: (cs ++ [.inr (9, [.int 0, .null, .int 0, .int 0, .null, .null, .null, .null])]))) (n + 1) = some (.inl (none, pt ω b (h :: (cs ++ wys Θ n p q)), n + 4)) := p_in (F := fun a ω n => F_X9_init Θ a p q ω n) (i9 n p q) hn
/-- one more court among the past ones -/
theorem p_st {f : Nat → Option Nat} {k la n : Nat} {xi : Int32} {fs : List Value} {cs : List va_E} {K : Nat → OW → RO} (hx : xi = nI k) (hk : k < 12) (hf : fs[2]? = some (.ref (b + 1))) (hn : n = b + (cs.length + 1 + 1)) :
    rA (pt ω b (.inr (5, fs) :: .inl (gC Θ, 12, .inr (.inr (.inr (.inr f)))) :: cs)) b 5 2 (fun a3 => nw (pt ω b (.inr (5, fs) :: .inl (gC Θ, 12, .inr (.inr (.inr (.inr f)))) :: cs)) n ct0 (fun a4 ω n => kC (F_X0_init Θ a4 la ω n) (fun ω n => sAr ω (gC Θ) a3 xi a4 (K n)))) =
    K (n + 12) (pt ω b (.inr (5, fs) :: .inl (gC Θ, 12, .inr (.inr (.inr (.inr (va_up f k (some n)))))) :: (cs ++ crt Θ n la))) := by
  have hn' : n = b + ((.inl (gC Θ, 12, .inr (.inr (.inr (.inr f)))) :: cs : List va_E).length + 1) := hn
  have hw : pt ω b (.inr (5, fs) :: ((.inl (gC Θ, 12, .inr (.inr (.inr (.inr f)))) :: cs) ++ crt Θ n la)) n = some (.inr (0, [.int 0, .int 0, .int 0, .int 2, .int 10, .int 0, .int 1, .ref (n + 1), .ref (n + 2), .ref (n + 3), .ref (n + 4), .ref (n + 5), .ref (n + 6), .ref (n + 7), .ref (n + 8), .ref (n + 9), .ref (n + 10), .ref la])) := by
    rw [pt_sp, ← hn']
    exact pt_at (i := 0) rfl
  rw [p_r (a := b + 1) hf, p_n hn', in0 hn', kC_v, p_a (f := f) hx hk 0 rfl rfl hw]
  rfl
def pasF (n : Nat) : Nat → Option Nat := va_up (va_up (va_up (va_up (va_up (va_up (va_up (va_up (va_up (va_up (va_up (va_up (fun _ => none) 0 (some (n + 2))) 1 (some (n + 14))) 2 (some (n + 26))) 3 (some (n + 38))) 4 (some (n + 50))) 5 (some (n + 62))) 6 (some (n + 74))) 7 (some (n + 86))) 8 (some (n + 98))) 9 (some (n + 110))) 10 (some (n + 122))) 11 (some (n + 134))
def pas (Θ : GP) (n la : Nat) : List va_E := .inr (5, [.int 0, .int 0, .ref (n + 1)]) :: .inl (gC Θ, 12, .inr (.inr (.inr (.inr (pasF n))))) :: (((((((((((([] ++ crt Θ (n + 2) la) ++ crt Θ (n + 14) la) ++ crt Θ (n + 26) la) ++ crt Θ (n + 38) la) ++ crt Θ (n + 50) la) ++ crt Θ (n + 62) la) ++ crt Θ (n + 74) la) ++ crt Θ (n + 86) la) ++ crt Θ (n + 98) la) ++ crt Θ (n + 110) la) ++ crt Θ (n + 122) la) ++ crt Θ (n + 134) la)
theorem crt_len (Θ : GP) (b la : Nat) : (crt Θ b la).length = 12 := rfl
theorem i5 (n la : Nat) (ω : OW) : F_X5_init Θ n la (pt ω n [.inr (5, [.int 0, .int 0, .null])]) (n + 1) = some (.inl (none, pt ω n (pas Θ n la), n + 146)) := by
  unfold F_X5_init
  rw [p_w (by show _ < 3; decide), p_w (by show _ < 3; decide), p_n (by exact rfl), p_w (by show _ < 3; decide)]
  rw [List.nil_append]
  rw [p_st (k := 0) (by exact rfl) (by decide) (by exact rfl) (by simp only [List.length_append, List.length_cons, List.length_nil, crt_len] <;> omega)]
  rw [p_st (k := 1) (by exact rfl) (by decide) (by exact rfl) (by simp only [List.length_append, List.length_cons, List.length_nil, crt_len] <;> omega)]
  rw [p_st (k := 2) (by exact rfl) (by decide) (by exact rfl) (by simp only [List.length_append, List.length_cons, List.length_nil, crt_len] <;> omega)]
  rw [p_st (k := 3) (by exact rfl) (by decide) (by exact rfl) (by simp only [List.length_append, List.length_cons, List.length_nil, crt_len] <;> omega)]
  rw [p_st (k := 4) (by exact rfl) (by decide) (by exact rfl) (by simp only [List.length_append, List.length_cons, List.length_nil, crt_len] <;> omega)]
  rw [p_st (k := 5) (by exact rfl) (by decide) (by exact rfl) (by simp only [List.length_append, List.length_cons, List.length_nil, crt_len] <;> omega)]
  rw [p_st (k := 6) (by exact rfl) (by decide) (by exact rfl) (by simp only [List.length_append, List.length_cons, List.length_nil, crt_len] <;> omega)]
  rw [p_st (k := 7) (by exact rfl) (by decide) (by exact rfl) (by simp only [List.length_append, List.length_cons, List.length_nil, crt_len] <;> omega)]
  rw [p_st (k := 8) (by exact rfl) (by decide) (by exact rfl) (by simp only [List.length_append, List.length_cons, List.length_nil, crt_len] <;> omega)]
  rw [p_st (k := 9) (by exact rfl) (by decide) (by exact rfl) (by simp only [List.length_append, List.length_cons, List.length_nil, crt_len] <;> omega)]
  rw [p_st (k := 10) (by exact rfl) (by decide) (by exact rfl) (by simp only [List.length_append, List.length_cons, List.length_nil, crt_len] <;> omega)]
  rw [p_st (k := 11) (by exact rfl) (by decide) (by exact rfl) (by simp only [List.length_append, List.length_cons, List.length_nil, crt_len] <;> omega)]
  rfl
theorem in5 {la : Nat} (hn : n = b + (cs.length + 1)) : F_X5_init Θ n la (pt ω b (h :: (cs ++ [.inr (5, [.int 0, .int 0, .null])]))) (n + 1) = some (.inl (none, pt ω b (h :: (cs ++ pas Θ n la)), n + 146)) := p_in (F := fun a ω n => F_X5_init Θ a la ω n) (i5 n la) hn
theorem in2 {m r1 r2 r3 r4 : Nat} {A B C D : va_E} (hn : n = b + (cs.length + 1)) : F_X2_init Θ n 0 0 r1 r2 r3 r4 (pt ω b (h :: (((((cs ++ [.inr (2, [.int 0, .int 0, .null, .null, .null, .null])]) ++ [A]) ++ [B]) ++ [C]) ++ [D]))) m = some (.inl (none, pt ω b (h :: (cs ++ [.inr (2, [.int 0, .int 0, .ref r1, .ref r2, .ref r3, .ref r4]), A, B, C, D])), m)) := by
  have e : ((((cs ++ [.inr (2, [.int 0, .int 0, .null, .null, .null, .null])]) ++ [A]) ++ [B]) ++ [C]) ++ [D] = cs ++ [.inr (2, [.int 0, .int 0, .null, .null, .null, .null]), A, B, C, D] := by simp
  rw [e, pt_sp (B := [.inr (2, [.int 0, .int 0, .null, .null, .null, .null]), A, B, C, D]), pt_sp (B := [.inr (2, [.int 0, .int 0, .ref r1, .ref r2, .ref r3, .ref r4]), A, B, C, D]), ← hn]
  unfold F_X2_init
  rw [p_w (by show _ < 6; decide), bz_0, p_w (by show _ < 6; decide), p_w (by show _ < 6; decide), p_w (by show _ < 6; decide), p_w (by show _ < 6; decide), p_w (by show _ < 6; decide)]
  rfl
end MK
