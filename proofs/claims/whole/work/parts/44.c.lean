/-! a new object, a new reference -/
theorem tap_len (Θ : GP) (n : Nat) : (tap Θ n).length = 2 := rfl
theorem sus_len (Θ : GP) (n : Nat) : (sus Θ n).length = 4 := rfl
theorem lwt_len (Θ : GP) (n p : Nat) : (lwt Θ n p).length = 5 := rfl
theorem rid_len (Θ : GP) (n p : Nat) : (rid Θ n p).length = 6 := rfl
theorem pas_len (Θ : GP) (n la : Nat) : (pas Θ n la).length = 146 := by
  unfold pas
  simp only [List.length_append, List.length_cons, List.length_nil, crt_len]
theorem wys_len (Θ : GP) (n p q : Nat) : (wys Θ n p q).length = 4 := rfl
def xAll (Θ : GP) (b : Nat) : List va_E := .inr (10, [.ref (b + 14), .ref (b + 26), .ref (b + 38), .int 0, .ref (b + 50), .ref (b + 1), .ref (b + 196), .ref (b + 197), .ref (b + 202), .ref (b + 208), .ref (b + 214), .ref (b + 3), .ref (b + 7), .ref (b + 8), .int (-1)]) :: (((((((((((((([] ++ tap Θ (b + 1)) ++ sus Θ (b + 3)) ++ [zR' Θ 10]) ++ [zR' Θ 9]) ++ [.inr (2, [.int 0, .int 0, .ref (b + 10), .ref (b + 11), .ref (b + 12), .ref (b + 13)]), zR' Θ 0, zR' Θ 0, zR' Θ 1, zR' Θ 0]) ++ crt Θ (b + 14) (b + 9)) ++ crt Θ (b + 26) (b + 9)) ++ crt Θ (b + 38) (b + 9)) ++ pas Θ (b + 50) (b + 9)) ++ [.inr (1, [.ref (b + 1), .ref (b + 26)])]) ++ lwt Θ (b + 197) (b + 1)) ++ rid Θ (b + 202) (b + 14)) ++ rid Θ (b + 208) (b + 14)) ++ wys Θ (b + 214) (b + 14) (b + 202))
section NX
variable {Θ : GP}
theorem iX (b : Nat) : F_X10_init Θ b (ωx b) (b + 1) = some (.inl (none, pt (fun _ => none) b (xAll Θ b), b + 218)) := by
  unfold F_X10_init
  rw [show ωx b = pt (fun _ => none) b [.inr (10, fsX10)] from pt_one]
  rw [p_w (by show _ < 15; decide)]
  rw [p_n (by simp only [List.length_append, List.length_cons, List.length_nil, crt_len, tap_len, sus_len, pas_len, lwt_len, rid_len] <;> omega)]
  rw [p_in (F := F_X8_init Θ) (i8 _) (by simp only [List.length_append, List.length_cons, List.length_nil, crt_len, tap_len, sus_len, pas_len, lwt_len, rid_len] <;> omega)]
  rw [kC_v]
  rw [p_w (by show _ < 15; decide)]
  rw [p_n (by simp only [List.length_append, List.length_cons, List.length_nil, crt_len, tap_len, sus_len, pas_len, lwt_len, rid_len] <;> omega)]
  rw [p_in (F := F_X7_init Θ) (i7 _) (by simp only [List.length_append, List.length_cons, List.length_nil, crt_len, tap_len, sus_len, pas_len, lwt_len, rid_len] <;> omega)]
  rw [kC_v]
  rw [p_w (by show _ < 15; decide)]
  rw [p_n (by simp only [List.length_append, List.length_cons, List.length_nil, crt_len, tap_len, sus_len, pas_len, lwt_len, rid_len] <;> omega)]
  rw [p_w (by show _ < 15; decide)]
  rw [p_n (by simp only [List.length_append, List.length_cons, List.length_nil, crt_len, tap_len, sus_len, pas_len, lwt_len, rid_len] <;> omega)]
  rw [p_w (by show _ < 15; decide)]
  rw [p_w (by show _ < 15; decide)]
  rw [p_n (by simp only [List.length_append, List.length_cons, List.length_nil, crt_len, tap_len, sus_len, pas_len, lwt_len, rid_len] <;> omega)]
  rw [p_n (by simp only [List.length_append, List.length_cons, List.length_nil, crt_len, tap_len, sus_len, pas_len, lwt_len, rid_len] <;> omega)]
  rw [p_n (by simp only [List.length_append, List.length_cons, List.length_nil, crt_len, tap_len, sus_len, pas_len, lwt_len, rid_len] <;> omega)]
  rw [p_n (by simp only [List.length_append, List.length_cons, List.length_nil, crt_len, tap_len, sus_len, pas_len, lwt_len, rid_len] <;> omega)]
  rw [p_n (by simp only [List.length_append, List.length_cons, List.length_nil, crt_len, tap_len, sus_len, pas_len, lwt_len, rid_len] <;> omega)]
  rw [in2 (by simp only [List.length_append, List.length_cons, List.length_nil, crt_len, tap_len, sus_len, pas_len, lwt_len, rid_len] <;> omega)]
  rw [kC_v]
  rw [p_n (by simp only [List.length_append, List.length_cons, List.length_nil, crt_len, tap_len, sus_len, pas_len, lwt_len, rid_len] <;> omega)]
  rw [in0 (by simp only [List.length_append, List.length_cons, List.length_nil, crt_len, tap_len, sus_len, pas_len, lwt_len, rid_len] <;> omega)]
  rw [kC_v]
  rw [p_w (by show _ < 15; decide)]
  rw [p_n (by simp only [List.length_append, List.length_cons, List.length_nil, crt_len, tap_len, sus_len, pas_len, lwt_len, rid_len] <;> omega)]
  rw [in0 (by simp only [List.length_append, List.length_cons, List.length_nil, crt_len, tap_len, sus_len, pas_len, lwt_len, rid_len] <;> omega)]
  rw [kC_v]
  rw [p_w (by show _ < 15; decide)]
  rw [p_n (by simp only [List.length_append, List.length_cons, List.length_nil, crt_len, tap_len, sus_len, pas_len, lwt_len, rid_len] <;> omega)]
  rw [in0 (by simp only [List.length_append, List.length_cons, List.length_nil, crt_len, tap_len, sus_len, pas_len, lwt_len, rid_len] <;> omega)]
  rw [kC_v]
  rw [p_w (by show _ < 15; decide)]
  rw [p_n (by simp only [List.length_append, List.length_cons, List.length_nil, crt_len, tap_len, sus_len, pas_len, lwt_len, rid_len] <;> omega)]
  rw [in5 (by simp only [List.length_append, List.length_cons, List.length_nil, crt_len, tap_len, sus_len, pas_len, lwt_len, rid_len] <;> omega)]
  rw [kC_v]
  rw [p_w (by show _ < 15; decide)]
  rw [p_n (by simp only [List.length_append, List.length_cons, List.length_nil, crt_len, tap_len, sus_len, pas_len, lwt_len, rid_len] <;> omega)]
  rw [p_r (by exact rfl)]
  rw [p_r (by exact rfl)]
  rw [in1 (by simp only [List.length_append, List.length_cons, List.length_nil, crt_len, tap_len, sus_len, pas_len, lwt_len, rid_len] <;> omega)]
  rw [kC_v]
  rw [p_w (by show _ < 15; decide)]
  rw [p_n (by simp only [List.length_append, List.length_cons, List.length_nil, crt_len, tap_len, sus_len, pas_len, lwt_len, rid_len] <;> omega)]
  rw [p_r (by exact rfl)]
  rw [in3 (by simp only [List.length_append, List.length_cons, List.length_nil, crt_len, tap_len, sus_len, pas_len, lwt_len, rid_len] <;> omega)]
  rw [kC_v]
  rw [p_w (by show _ < 15; decide)]
  rw [p_n (by simp only [List.length_append, List.length_cons, List.length_nil, crt_len, tap_len, sus_len, pas_len, lwt_len, rid_len] <;> omega)]
  rw [p_r (by exact rfl)]
  rw [in6 (by simp only [List.length_append, List.length_cons, List.length_nil, crt_len, tap_len, sus_len, pas_len, lwt_len, rid_len] <;> omega)]
  rw [kC_v]
  rw [p_w (by show _ < 15; decide)]
  rw [p_n (by simp only [List.length_append, List.length_cons, List.length_nil, crt_len, tap_len, sus_len, pas_len, lwt_len, rid_len] <;> omega)]
  rw [p_r (by exact rfl)]
  rw [in6 (by simp only [List.length_append, List.length_cons, List.length_nil, crt_len, tap_len, sus_len, pas_len, lwt_len, rid_len] <;> omega)]
  rw [kC_v]
  rw [p_w (by show _ < 15; decide)]
  rw [p_n (by simp only [List.length_append, List.length_cons, List.length_nil, crt_len, tap_len, sus_len, pas_len, lwt_len, rid_len] <;> omega)]
  rw [p_r (by exact rfl)]
  rw [p_r (by exact rfl)]
  rw [in9 (by simp only [List.length_append, List.length_cons, List.length_nil, crt_len, tap_len, sus_len, pas_len, lwt_len, rid_len] <;> omega)]
  rw [kC_v]
  rw [p_w (by show _ < 15; decide)]
  rfl
def mdl (Θ : GP) (n : Nat) : List va_E := .inr (11, [.int 0, .ref (n + 1), .ref (n + 2), .ref (n + 3), .ref (n + 4), .ref (n + 5), .int 0, .int 0, .ref (n + 6), .int 0, .int 0, .int 0, .int 0, .int 0, .int (-1), .ref (n + 7), .int 0, .ref (n + 8), .int 0, .int 0, .int 0, .int 0, .int 0, .int 0, .int 0, .ref (n + 9), .ref (n + 10), .ref (n + 11), .int 0, .int 0, .int 0, .int 0, .int 0, .ref (n + 12), .ref (n + 13), .ref (n + 14), .int 0, .ref (n + 15)]) :: [.inl (gI Θ, 2003, .inl (upd (upd (upd (fun _ => 0) 5 2) 6 10) 8 1)), zR' Θ 1154, zR' Θ 1154, zR' Θ 305, zR' Θ 3660, .inl (gB Θ, 400, .inl (fun _ => 0)), zR' Θ 5, zR' Θ 400, zR' Θ 10, zR' Θ 10, zR' Θ 8, zR' Θ 61, zR' Θ 61, zR' Θ 10, zR' Θ 640]
theorem p_s' {ω : OW} {b a N p : Nat} {cs : List va_E} {h : va_E} {g : Nat → Int32} {xi y : Int32} {kk : OW → RO} (i : Nat) (ha : a = b + (i + 1)) (hg : cs[i]? = some (.inl (gI Θ, N, .inl g))) (hx : xi = nI p) (hp : p < N) (hN : N < 2 ^ 31) : sI (pt ω b (h :: cs)) (gI Θ) a xi y kk = kk (pt ω b (h :: cs.set i (.inl (gI Θ, N, .inl (upd g p y))))) := by
  have hi : i < cs.length := (List.getElem?_eq_some_iff.mp hg).1
  have hc : cs.set i (.inl (gI Θ, N, .inl g)) = cs := by
    refine List.ext_getElem? fun k => ?_
    by_cases hk : i = k
    · subst hk; rw [List.getElem?_set_self hi, hg]
    · rw [List.getElem?_set_ne hk]
  have e := p_s (Θ := Θ) (ω := ω) (b := b) (h := h) (kk := kk) (g := g) (y := y) hi hp hN
  rw [hc] at e
  rw [ha, hx]
  exact e
set_option maxHeartbeats 4000000 in
theorem iM (n : Nat) (ω : OW) : F_X11_init Θ n (pt ω n [.inr (11, fsX11)]) (n + 1) = some (.inl (none, pt ω n (mdl Θ n), n + 16)) := by
  unfold F_X11_init
  rw [p_n (by exact rfl)]
  rw [p_w (by first | (simp only [List.length_set]; decide) | decide)]
  rw [p_n (by exact rfl)]
  rw [p_w (by first | (simp only [List.length_set]; decide) | decide)]
  rw [p_n (by exact rfl)]
  rw [p_w (by first | (simp only [List.length_set]; decide) | decide)]
  rw [p_n (by exact rfl)]
  rw [p_w (by first | (simp only [List.length_set]; decide) | decide)]
  rw [p_n (by exact rfl)]
  rw [p_w (by first | (simp only [List.length_set]; decide) | decide)]
  rw [p_n (by exact rfl)]
  rw [p_w (by first | (simp only [List.length_set]; decide) | decide)]
  rw [p_w (by first | (simp only [List.length_set]; decide) | decide)]
  rw [p_n (by exact rfl)]
  rw [p_w (by first | (simp only [List.length_set]; decide) | decide)]
  rw [p_n (by exact rfl)]
  rw [p_w (by first | (simp only [List.length_set]; decide) | decide)]
  rw [p_n (by exact rfl)]
  rw [p_w (by first | (simp only [List.length_set]; decide) | decide)]
  rw [p_n (by exact rfl)]
  rw [p_w (by first | (simp only [List.length_set]; decide) | decide)]
  rw [p_n (by exact rfl)]
  rw [p_w (by first | (simp only [List.length_set]; decide) | decide)]
  rw [p_n (by exact rfl)]
  rw [p_w (by first | (simp only [List.length_set]; decide) | decide)]
  rw [p_n (by exact rfl)]
  rw [p_w (by first | (simp only [List.length_set]; decide) | decide)]
  rw [p_n (by exact rfl)]
  rw [p_w (by first | (simp only [List.length_set]; decide) | decide)]
  rw [p_n (by exact rfl)]
  rw [p_w (by first | (simp only [List.length_set]; decide) | decide)]
  simp only [fsX11, List.nil_append, List.cons_append, List.set_cons_zero, List.set_cons_succ]
  rw [p_r (by exact rfl)]
  rw [p_s' (p := 5) 0 (by exact rfl) (by exact rfl) (by exact rfl) (by decide) (by decide)]
  simp only [List.set_cons_zero]
  rw [p_r (by exact rfl)]
  rw [p_s' (p := 6) 0 (by exact rfl) (by exact rfl) (by exact rfl) (by decide) (by decide)]
  simp only [List.set_cons_zero]
  rw [p_r (by exact rfl)]
  rw [p_s' (p := 8) 0 (by exact rfl) (by exact rfl) (by exact rfl) (by decide) (by decide)]
  simp only [List.set_cons_zero]
  rfl
end NX
