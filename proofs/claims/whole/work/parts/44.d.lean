/-! a new object and a new reference are at one -/
def rowT : List Nat := [0, 0, 0, 0, 0, 0, 0, 0, 0, 0, 0, 0, 0, 0, 0, 0, 0, 0, 1, 2, 0, 0, 0, 0, 0, 0, 0, 0, 0, 0, 1, 2, 0, 0, 0, 0, 0, 0, 0, 0, 0, 0, 1, 2, 0, 0, 0, 0, 0, 0, 0, 0, 0, 0, 0, 0, 1, 2, 0, 0, 0, 0, 0, 0, 0, 0, 0, 0, 1, 2, 0, 0, 0, 0, 0, 0, 0, 0, 0, 0, 1, 2, 0, 0, 0, 0, 0, 0, 0, 0, 0, 0, 1, 2, 0, 0, 0, 0, 0, 0, 0, 0, 0, 0, 1, 2, 0, 0, 0, 0, 0, 0, 0, 0, 0, 0, 1, 2, 0, 0, 0, 0, 0, 0, 0, 0, 0, 0, 1, 2, 0, 0, 0, 0, 0, 0, 0, 0, 0, 0, 1, 2, 0, 0, 0, 0, 0, 0, 0, 0, 0, 0, 1, 2, 0, 0, 0, 0, 0, 0, 0, 0, 0, 0, 1, 2, 0, 0, 0, 0, 0, 0, 0, 0, 0, 0, 1, 2, 0, 0, 0, 0, 0, 0, 0, 0, 0, 0, 1, 2, 0, 0, 0, 0, 0, 0, 0, 0, 0, 0, 0, 0, 0, 0, 0, 0, 0, 0, 0, 0, 0, 0, 0, 0, 0, 0, 0, 0, 0, 3, 0, 0, 0, 0, 0, 0, 0, 0, 0, 0, 0, 0, 0, 0, 0]
def z0F (c j : Nat) : Int32 := if c = 0 then (if j = 3 then 2 else if j = 4 then 10 else if j = 6 then 1 else 0) else if c = 6 then (if j = 6 then -1 else if j = 7 then 1 else if j = 8 then -1 else 0) else if c = 9 then (if j = 2 then 1 else 0) else if j = 14 ∧ (c = 10 ∨ c = 11) then -1 else 0
def z0A (t : Nat) : Nat → Int32 := fun j => if t = 1 then (if 0 ≤ j ∧ j < 8 then -1 else 0) else if t = 2 then (if 0 ≤ j ∧ j < 10 then -1 else 0) else if t = 3 then upd (upd (upd (fun _ => 0) 5 2) 6 10) 8 1 j else 0
def S0 (Θ : GP) : PZ := (fun k j => z0F (kdz k) j, fun k => z0A (rowT.getD k 0), fun _ => 0, fun _ j => if j = 17 then gb Θ + 9 else gb Θ + (212 + j))
def Rw (Θ : GP) (L : List va_E) (s : Nat) : Prop := ∀ i, i < L.length → kdz (s + i) < 99 → L[i]? = some (cez Θ (S0 Θ) (s + i))
section ZZ
variable {Θ : GP} {A B L : List va_E} {s k : Nat} {x : va_E}
theorem Rw.app {s' : Nat} (hA : Rw Θ A s) (hs : s + A.length = s') (hB : Rw Θ B s') : Rw Θ (A ++ B) s := by
  subst hs
  intro i hi hk
  by_cases h : i < A.length
  · rw [List.getElem?_append_left h]; exact hA i h hk
  · have e : s + A.length + (i - A.length) = s + i := by omega
    have := hB (i - A.length) (by rw [List.length_append] at hi; omega) (by rw [e]; exact hk)
    rw [List.getElem?_append_right (by omega), this, e]
theorem Rw.nil : Rw Θ [] s := fun i hi => absurd hi (Nat.not_lt_zero _)
theorem Rw.cons (hx : kdz s < 99 → x = cez Θ (S0 Θ) s) (h : Rw Θ L (s + 1)) : Rw Θ (x :: L) s := by
  intro i hi hk
  cases i with
  | zero =>
    have hk : kdz s < 99 := hk
    show some x = some (cez Θ (S0 Θ) s)
    rw [← hx hk]
  | succ i =>
    have e : s + 1 + i = s + (i + 1) := by omega
    have := h i (by rw [List.length_cons] at hi; omega) (by rw [e]; exact hk)
    rw [List.getElem?_cons_succ, this, e]
theorem za {N t : Nat} (hk : kdz k = 20) (hl : alz k = N) (ht : rowT.getD k 0 = t) : cez Θ (S0 Θ) k = .inl (gI Θ, N, .inl (z0A t)) := by
  rw [cez_ar Θ _ hk, hl]
  show Sum.inl (gI Θ, N, Sum.inl (z0A (rowT.getD k 0))) = _
  rw [ht]
theorem z0 (N : Nat) : zR' Θ N = .inl (gI Θ, N, .inl (z0A 0)) := rfl
theorem zr {N : Nat} (hk : kdz k = 20) (hl : alz k = N) (ht : rowT.getD k 0 = 0) : zR' Θ N = cez Θ (S0 Θ) k := by
  rw [za hk hl ht]; exact z0 N
theorem crt_Rw {k : Nat} (hK : ∀ j, j < 12 → kdz (k + j) = [0, 20, 20, 20, 20, 20, 20, 20, 20, 20, 4, 20].getD j 99 ∧ alz (k + j) = [0, 8, 8, 8, 8, 10, 6, 6, 6, 6, 0, 240].getD j 0 ∧ rowT.getD (k + j) 0 = [0, 0, 0, 0, 1, 2, 0, 0, 0, 0, 0, 0].getD j 0) : Rw Θ (crt Θ (gb Θ + k) (gb Θ + 9)) k := by
  have h0 : kdz k = 0 := (hK 0 (by omega)).1
  have hz : ∀ j, zF (S0 Θ) k j = z0F 0 j := fun j => by show z0F (kdz k) j = _; rw [h0]
  have h10 : kdz (k + 10) = 4 := (hK 10 (by omega)).1
  have hz' : ∀ j, zF (S0 Θ) (k + 10) j = z0F 4 j := fun j => by show z0F (kdz (k + 10)) j = _; rw [h10]
  have e0 : cez Θ (S0 Θ) k = .inr (0, [.int 0, .int 0, .int 0, .int 2, .int 10, .int 0, .int 1, .ref (gb Θ + k + 1), .ref (gb Θ + k + 2), .ref (gb Θ + k + 3), .ref (gb Θ + k + 4), .ref (gb Θ + k + 5), .ref (gb Θ + k + 6), .ref (gb Θ + k + 7), .ref (gb Θ + k + 8), .ref (gb Θ + k + 9), .ref (gb Θ + k + 10), .ref (gb Θ + 9)]) := by
    rw [cez_ob Θ _ h0 (by decide)]
    show Sum.inr (0, fz0 Θ (S0 Θ) k) = _
    unfold fz0
    rw [hz, hz, hz, hz, hz, hz, hz]
    rfl
  have e10 : cez Θ (S0 Θ) (k + 10) = .inr (4, [.int 0, .int 0, .ref (gb Θ + k + 11)]) := by
    rw [cez_ob Θ _ h10 (by decide)]
    show Sum.inr (4, fz4 Θ (S0 Θ) (k + 10)) = _
    unfold fz4
    rw [hz', hz']
    rfl
  unfold crt
  refine Rw.cons (fun _ => e0.symm) (Rw.cons (fun _ => zr (hK 1 (by omega)).1 (hK 1 (by omega)).2.1 (hK 1 (by omega)).2.2) (Rw.cons (fun _ => zr (hK 2 (by omega)).1 (hK 2 (by omega)).2.1 (hK 2 (by omega)).2.2) (Rw.cons (fun _ => zr (hK 3 (by omega)).1 (hK 3 (by omega)).2.1 (hK 3 (by omega)).2.2) (Rw.cons (fun _ => (za (t := 1) (hK 4 (by omega)).1 (hK 4 (by omega)).2.1 (hK 4 (by omega)).2.2).symm) (Rw.cons (fun _ => (za (t := 2) (hK 5 (by omega)).1 (hK 5 (by omega)).2.1 (hK 5 (by omega)).2.2).symm) (Rw.cons (fun _ => zr (hK 6 (by omega)).1 (hK 6 (by omega)).2.1 (hK 6 (by omega)).2.2) (Rw.cons (fun _ => zr (hK 7 (by omega)).1 (hK 7 (by omega)).2.1 (hK 7 (by omega)).2.2) (Rw.cons (fun _ => zr (hK 8 (by omega)).1 (hK 8 (by omega)).2.1 (hK 8 (by omega)).2.2) (Rw.cons (fun _ => zr (hK 9 (by omega)).1 (hK 9 (by omega)).2.1 (hK 9 (by omega)).2.2) (Rw.cons (fun _ => e10.symm) (Rw.cons (fun _ => zr (hK 11 (by omega)).1 (hK 11 (by omega)).2.1 (hK 11 (by omega)).2.2) Rw.nil)))))))))))
theorem pasF_z (g : Nat) : pasF (g + 50) = (fun i => if i < 12 then some (g + (52 + 12 * i)) else none) := by
  funext i
  unfold pasF va_up
  by_cases h : i < 12
  · rw [if_pos h]
    have q : i = 0 ∨ i = 1 ∨ i = 2 ∨ i = 3 ∨ i = 4 ∨ i = 5 ∨ i = 6 ∨ i = 7 ∨ i = 8 ∨ i = 9 ∨ i = 10 ∨ i = 11 := by omega
    rcases q with rfl | rfl | rfl | rfl | rfl | rfl | rfl | rfl | rfl | rfl | rfl | rfl <;> rfl
  · rw [if_neg h]
    rw [if_neg (by omega), if_neg (by omega), if_neg (by omega), if_neg (by omega), if_neg (by omega), if_neg (by omega), if_neg (by omega), if_neg (by omega), if_neg (by omega), if_neg (by omega), if_neg (by omega), if_neg (by omega)]
theorem pas_Rw : Rw Θ (pas Θ (gb Θ + 50) (gb Θ + 9)) 50 := by
  unfold pas
  refine Rw.cons (fun _ => ?_) ?_
  · rw [cez_ob Θ (S0 Θ) (k := 50) (c := 5) rfl (by decide)]; rfl
  · refine Rw.cons (fun _ => ?_) ?_
    · rw [pasF_z]
      rfl
    have a : Rw Θ [] 52 := Rw.nil
    have a0 := Rw.app a (s' := 52) (by simp only [List.length_append, List.length_cons, List.length_nil, crt_len, tap_len, sus_len, pas_len, lwt_len, rid_len, wys_len]) (crt_Rw (k := 52) (by decide +kernel))
    have a1 := Rw.app a0 (s' := 64) (by simp only [List.length_append, List.length_cons, List.length_nil, crt_len, tap_len, sus_len, pas_len, lwt_len, rid_len, wys_len]) (crt_Rw (k := 64) (by decide +kernel))
    have a2 := Rw.app a1 (s' := 76) (by simp only [List.length_append, List.length_cons, List.length_nil, crt_len, tap_len, sus_len, pas_len, lwt_len, rid_len, wys_len]) (crt_Rw (k := 76) (by decide +kernel))
    have a3 := Rw.app a2 (s' := 88) (by simp only [List.length_append, List.length_cons, List.length_nil, crt_len, tap_len, sus_len, pas_len, lwt_len, rid_len, wys_len]) (crt_Rw (k := 88) (by decide +kernel))
    have a4 := Rw.app a3 (s' := 100) (by simp only [List.length_append, List.length_cons, List.length_nil, crt_len, tap_len, sus_len, pas_len, lwt_len, rid_len, wys_len]) (crt_Rw (k := 100) (by decide +kernel))
    have a5 := Rw.app a4 (s' := 112) (by simp only [List.length_append, List.length_cons, List.length_nil, crt_len, tap_len, sus_len, pas_len, lwt_len, rid_len, wys_len]) (crt_Rw (k := 112) (by decide +kernel))
    have a6 := Rw.app a5 (s' := 124) (by simp only [List.length_append, List.length_cons, List.length_nil, crt_len, tap_len, sus_len, pas_len, lwt_len, rid_len, wys_len]) (crt_Rw (k := 124) (by decide +kernel))
    have a7 := Rw.app a6 (s' := 136) (by simp only [List.length_append, List.length_cons, List.length_nil, crt_len, tap_len, sus_len, pas_len, lwt_len, rid_len, wys_len]) (crt_Rw (k := 136) (by decide +kernel))
    have a8 := Rw.app a7 (s' := 148) (by simp only [List.length_append, List.length_cons, List.length_nil, crt_len, tap_len, sus_len, pas_len, lwt_len, rid_len, wys_len]) (crt_Rw (k := 148) (by decide +kernel))
    have a9 := Rw.app a8 (s' := 160) (by simp only [List.length_append, List.length_cons, List.length_nil, crt_len, tap_len, sus_len, pas_len, lwt_len, rid_len, wys_len]) (crt_Rw (k := 160) (by decide +kernel))
    have a10 := Rw.app a9 (s' := 172) (by simp only [List.length_append, List.length_cons, List.length_nil, crt_len, tap_len, sus_len, pas_len, lwt_len, rid_len, wys_len]) (crt_Rw (k := 172) (by decide +kernel))
    have a11 := Rw.app a10 (s' := 184) (by simp only [List.length_append, List.length_cons, List.length_nil, crt_len, tap_len, sus_len, pas_len, lwt_len, rid_len, wys_len]) (crt_Rw (k := 184) (by decide +kernel))
    exact a11
theorem tap_Rw : Rw Θ (tap Θ (gb Θ + 1)) 1 := by
  refine Rw.cons (fun _ => ?_) (Rw.cons (fun _ => ?_) (Rw.nil))
  · rw [cez_ob Θ (S0 Θ) (k := 1) (c := 8) rfl (by decide)]; rfl
  · exact zr (k := 2) rfl rfl rfl
theorem sus_Rw : Rw Θ (sus Θ (gb Θ + 3)) 3 := by
  refine Rw.cons (fun _ => ?_) (Rw.cons (fun _ => ?_) (Rw.cons (fun _ => ?_) (Rw.cons (fun _ => ?_) (Rw.nil))))
  · rw [cez_ob Θ (S0 Θ) (k := 3) (c := 7) rfl (by decide)]; rfl
  · rw [cez_bo Θ (S0 Θ) (k := 4) rfl]; rfl
  · exact zr (k := 5) rfl rfl rfl
  · exact zr (k := 6) rfl rfl rfl
theorem r7_Rw : Rw Θ ([zR' Θ 10]) 7 := by
  refine Rw.cons (fun _ => ?_) (Rw.nil)
  · exact zr (k := 7) rfl rfl rfl
theorem r8_Rw : Rw Θ ([zR' Θ 9]) 8 := by
  refine Rw.cons (fun _ => ?_) (Rw.nil)
  · exact zr (k := 8) rfl rfl rfl
theorem lw_Rw : Rw Θ ([.inr (2, [.int 0, .int 0, .ref (gb Θ + 10), .ref (gb Θ + 11), .ref (gb Θ + 12), .ref (gb Θ + 13)]), zR' Θ 0, zR' Θ 0, zR' Θ 1, zR' Θ 0]) 9 := by
  refine Rw.cons (fun z => ?_) (Rw.cons (fun z => ?_) (Rw.cons (fun z => ?_) (Rw.cons (fun z => ?_) (Rw.cons (fun z => ?_) (Rw.nil)))))
  · exact absurd z (by decide)
  · exact absurd z (by decide)
  · exact absurd z (by decide)
  · exact absurd z (by decide)
  · exact absurd z (by decide)
theorem ct_Rw : Rw Θ ([.inr (1, [.ref (gb Θ + 1), .ref (gb Θ + 26)])]) 196 := by
  refine Rw.cons (fun _ => ?_) (Rw.nil)
  · rw [cez_ob Θ (S0 Θ) (k := 196) (c := 1) rfl (by decide)]; rfl
theorem lt_Rw : Rw Θ (lwt Θ (gb Θ + 197) (gb Θ + 1)) 197 := by
  refine Rw.cons (fun _ => ?_) (Rw.cons (fun _ => ?_) (Rw.cons (fun _ => ?_) (Rw.cons (fun _ => ?_) (Rw.cons (fun _ => ?_) (Rw.nil)))))
  · rw [cez_ob Θ (S0 Θ) (k := 197) (c := 3) rfl (by decide)]; rfl
  · exact zr (k := 198) rfl rfl rfl
  · exact zr (k := 199) rfl rfl rfl
  · exact zr (k := 200) rfl rfl rfl
  · exact zr (k := 201) rfl rfl rfl
theorem ra_Rw : Rw Θ (rid Θ (gb Θ + 202) (gb Θ + 14)) 202 := by
  refine Rw.cons (fun _ => ?_) (Rw.cons (fun _ => ?_) (Rw.cons (fun _ => ?_) (Rw.cons (fun _ => ?_) (Rw.cons (fun _ => ?_) (Rw.cons (fun _ => ?_) (Rw.nil))))))
  · rw [cez_ob Θ (S0 Θ) (k := 202) (c := 6) rfl (by decide)]; rfl
  · exact zr (k := 203) rfl rfl rfl
  · exact zr (k := 204) rfl rfl rfl
  · exact zr (k := 205) rfl rfl rfl
  · exact zr (k := 206) rfl rfl rfl
  · exact zr (k := 207) rfl rfl rfl
theorem rb_Rw : Rw Θ (rid Θ (gb Θ + 208) (gb Θ + 14)) 208 := by
  refine Rw.cons (fun _ => ?_) (Rw.cons (fun _ => ?_) (Rw.cons (fun _ => ?_) (Rw.cons (fun _ => ?_) (Rw.cons (fun _ => ?_) (Rw.cons (fun _ => ?_) (Rw.nil))))))
  · rw [cez_ob Θ (S0 Θ) (k := 208) (c := 6) rfl (by decide)]; rfl
  · exact zr (k := 209) rfl rfl rfl
  · exact zr (k := 210) rfl rfl rfl
  · exact zr (k := 211) rfl rfl rfl
  · exact zr (k := 212) rfl rfl rfl
  · exact zr (k := 213) rfl rfl rfl
theorem wy_Rw : Rw Θ (wys Θ (gb Θ + 214) (gb Θ + 14) (gb Θ + 202)) 214 := by
  refine Rw.cons (fun _ => ?_) (Rw.cons (fun _ => ?_) (Rw.cons (fun _ => ?_) (Rw.cons (fun _ => ?_) (Rw.nil))))
  · rw [cez_ob Θ (S0 Θ) (k := 214) (c := 9) rfl (by decide)]; rfl
  · exact zr (k := 215) rfl rfl rfl
  · exact zr (k := 216) rfl rfl rfl
  · exact zr (k := 217) rfl rfl rfl
theorem md_Rw : Rw Θ (mdl Θ (gb Θ + 218)) 218 := by
  refine Rw.cons (fun _ => ?_) (Rw.cons (fun _ => ?_) (Rw.cons (fun _ => ?_) (Rw.cons (fun _ => ?_) (Rw.cons (fun _ => ?_) (Rw.cons (fun _ => ?_) (Rw.cons (fun _ => ?_) (Rw.cons (fun _ => ?_) (Rw.cons (fun _ => ?_) (Rw.cons (fun _ => ?_) (Rw.cons (fun _ => ?_) (Rw.cons (fun _ => ?_) (Rw.cons (fun _ => ?_) (Rw.cons (fun _ => ?_) (Rw.cons (fun _ => ?_) (Rw.cons (fun _ => ?_) (Rw.nil))))))))))))))))
  · rw [cez_ob Θ (S0 Θ) (k := 218) (c := 11) rfl (by decide)]; rfl
  · rw [za (k := 219) (N := 2003) (t := 3) rfl rfl rfl]; rfl
  · exact zr (k := 220) rfl rfl rfl
  · exact zr (k := 221) rfl rfl rfl
  · exact zr (k := 222) rfl rfl rfl
  · exact zr (k := 223) rfl rfl rfl
  · rw [cez_by Θ (S0 Θ) (k := 224) rfl]; rfl
  · exact zr (k := 225) rfl rfl rfl
  · exact zr (k := 226) rfl rfl rfl
  · exact zr (k := 227) rfl rfl rfl
  · exact zr (k := 228) rfl rfl rfl
  · exact zr (k := 229) rfl rfl rfl
  · exact zr (k := 230) rfl rfl rfl
  · exact zr (k := 231) rfl rfl rfl
  · exact zr (k := 232) rfl rfl rfl
  · exact zr (k := 233) rfl rfl rfl
theorem ou_Rw : Rw Θ ([.inl (gJ Θ, 1, .inr (.inl (fun _ => 0)))]) 234 := by
  refine Rw.cons (fun _ => ?_) (Rw.nil)
  · show _ = Sum.inl (gJ Θ, 1, Sum.inr (Sum.inl (vp_updL (fun _ => 0) 0 0)))
    congr 5
    funext j
    unfold vp_updL
    split <;> rfl
theorem xAll_Rw : Rw Θ (xAll Θ (gb Θ)) 0 := by
  unfold xAll
  refine Rw.cons (fun _ => ?_) ?_
  · rw [cez_ob Θ (S0 Θ) (k := 0) (c := 10) rfl (by decide)]; rfl
  · have a : Rw Θ [] 1 := Rw.nil
    have a0 := Rw.app a (s' := 1) (by simp only [List.length_append, List.length_cons, List.length_nil, crt_len, tap_len, sus_len, pas_len, lwt_len, rid_len, wys_len]) (tap_Rw (Θ := Θ))
    have a1 := Rw.app a0 (s' := 3) (by simp only [List.length_append, List.length_cons, List.length_nil, crt_len, tap_len, sus_len, pas_len, lwt_len, rid_len, wys_len]) (sus_Rw (Θ := Θ))
    have a2 := Rw.app a1 (s' := 7) (by simp only [List.length_append, List.length_cons, List.length_nil, crt_len, tap_len, sus_len, pas_len, lwt_len, rid_len, wys_len]) (r7_Rw (Θ := Θ))
    have a3 := Rw.app a2 (s' := 8) (by simp only [List.length_append, List.length_cons, List.length_nil, crt_len, tap_len, sus_len, pas_len, lwt_len, rid_len, wys_len]) (r8_Rw (Θ := Θ))
    have a4 := Rw.app a3 (s' := 9) (by simp only [List.length_append, List.length_cons, List.length_nil, crt_len, tap_len, sus_len, pas_len, lwt_len, rid_len, wys_len]) (lw_Rw (Θ := Θ))
    have a5 := Rw.app a4 (s' := 14) (by simp only [List.length_append, List.length_cons, List.length_nil, crt_len, tap_len, sus_len, pas_len, lwt_len, rid_len, wys_len]) (crt_Rw (k := 14) (by decide +kernel))
    have a6 := Rw.app a5 (s' := 26) (by simp only [List.length_append, List.length_cons, List.length_nil, crt_len, tap_len, sus_len, pas_len, lwt_len, rid_len, wys_len]) (crt_Rw (k := 26) (by decide +kernel))
    have a7 := Rw.app a6 (s' := 38) (by simp only [List.length_append, List.length_cons, List.length_nil, crt_len, tap_len, sus_len, pas_len, lwt_len, rid_len, wys_len]) (crt_Rw (k := 38) (by decide +kernel))
    have a8 := Rw.app a7 (s' := 50) (by simp only [List.length_append, List.length_cons, List.length_nil, crt_len, tap_len, sus_len, pas_len, lwt_len, rid_len, wys_len]) (pas_Rw (Θ := Θ))
    have a9 := Rw.app a8 (s' := 196) (by simp only [List.length_append, List.length_cons, List.length_nil, crt_len, tap_len, sus_len, pas_len, lwt_len, rid_len, wys_len]) (ct_Rw (Θ := Θ))
    have a10 := Rw.app a9 (s' := 197) (by simp only [List.length_append, List.length_cons, List.length_nil, crt_len, tap_len, sus_len, pas_len, lwt_len, rid_len, wys_len]) (lt_Rw (Θ := Θ))
    have a11 := Rw.app a10 (s' := 202) (by simp only [List.length_append, List.length_cons, List.length_nil, crt_len, tap_len, sus_len, pas_len, lwt_len, rid_len, wys_len]) (ra_Rw (Θ := Θ))
    have a12 := Rw.app a11 (s' := 208) (by simp only [List.length_append, List.length_cons, List.length_nil, crt_len, tap_len, sus_len, pas_len, lwt_len, rid_len, wys_len]) (rb_Rw (Θ := Θ))
    have a13 := Rw.app a12 (s' := 214) (by simp only [List.length_append, List.length_cons, List.length_nil, crt_len, tap_len, sus_len, pas_len, lwt_len, rid_len, wys_len]) (wy_Rw (Θ := Θ))
    exact a13
theorem xAll_len (b : Nat) : (xAll Θ b).length = 218 := by
  unfold xAll
  simp only [List.length_append, List.length_cons, List.length_nil, crt_len, tap_len, sus_len, pas_len, lwt_len, rid_len, wys_len]
theorem mdl_len (n : Nat) : (mdl Θ n).length = 16 := rfl
/-- the world behind all makings -/
def wAll (Θ : GP) : OW := pt (fun _ => none) (gb Θ) ((xAll Θ (gb Θ) ++ mdl Θ (gb Θ + 218)) ++ [.inl (gJ Θ, 1, .inr (.inl (fun _ => 0)))])
theorem wAll_Rw : Rw Θ ((xAll Θ (gb Θ) ++ mdl Θ (gb Θ + 218)) ++ [.inl (gJ Θ, 1, .inr (.inl (fun _ => 0)))]) 0 := (xAll_Rw.app (s' := 218) (by rw [xAll_len]) (md_Rw (Θ := Θ))).app (s' := 234) (by rw [List.length_append, xAll_len, mdl_len]) ou_Rw
theorem wAll_z : wAll Θ = laz Θ (S0 Θ) (wAll Θ) := by
  funext a
  unfold laz
  by_cases h : gb Θ ≤ a ∧ kdz (a - gb Θ) < 99
  · rw [if_pos h]
    have hl : kdT.length = 235 := rfl
    have hk : a - gb Θ < 235 := by
      apply Classical.byContradiction
      intro u
      have : kdz (a - gb Θ) = 99 := by
        unfold kdz
        rw [List.getD_eq_getElem?_getD, List.getElem?_eq_none (by omega)]
        rfl
      omega
    have hw := wAll_Rw (Θ := Θ) (a - gb Θ) (by rw [List.length_append, List.length_append, xAll_len, mdl_len]; exact hk) (by rw [Nat.zero_add]; exact h.2)
    rw [Nat.zero_add] at hw
    have := pt_at (ω := fun _ => none) (b := gb Θ) hw
    rw [show gb Θ + (a - gb Θ) = a by omega] at this
    exact this
  · rw [if_neg h]
theorem wAll_pre {i : Nat} (hi : i < 13) : ((xAll Θ (gb Θ) ++ mdl Θ (gb Θ + 218)) ++ [.inl (gJ Θ, 1, .inr (.inl (fun _ => 0)))])[i + 1]? = (((((([] ++ tap Θ (gb Θ + 1)) ++ sus Θ (gb Θ + 3)) ++ [zR' Θ 10]) ++ [zR' Θ 9]) ++ [.inr (2, [.int 0, .int 0, .ref (gb Θ + 10), .ref (gb Θ + 11), .ref (gb Θ + 12), .ref (gb Θ + 13)]), zR' Θ 0, zR' Θ 0, zR' Θ 1, zR' Θ 0]) : List va_E)[i]? := by
  rw [List.getElem?_append_left (by rw [List.length_append, xAll_len, mdl_len]; omega), List.getElem?_append_left (by rw [xAll_len]; omega)]
  unfold xAll
  rw [List.getElem?_cons_succ]
  refine (List.getElem?_append_left (by simp only [List.length_append, List.length_cons, List.length_nil, crt_len, tap_len, sus_len, pas_len, lwt_len, rid_len, wys_len] <;> omega)).trans ?_
  refine (List.getElem?_append_left (by simp only [List.length_append, List.length_cons, List.length_nil, crt_len, tap_len, sus_len, pas_len, lwt_len, rid_len, wys_len] <;> omega)).trans ?_
  refine (List.getElem?_append_left (by simp only [List.length_append, List.length_cons, List.length_nil, crt_len, tap_len, sus_len, pas_len, lwt_len, rid_len, wys_len] <;> omega)).trans ?_
  refine (List.getElem?_append_left (by simp only [List.length_append, List.length_cons, List.length_nil, crt_len, tap_len, sus_len, pas_len, lwt_len, rid_len, wys_len] <;> omega)).trans ?_
  refine (List.getElem?_append_left (by simp only [List.length_append, List.length_cons, List.length_nil, crt_len, tap_len, sus_len, pas_len, lwt_len, rid_len, wys_len] <;> omega)).trans ?_
  refine (List.getElem?_append_left (by simp only [List.length_append, List.length_cons, List.length_nil, crt_len, tap_len, sus_len, pas_len, lwt_len, rid_len, wys_len] <;> omega)).trans ?_
  refine (List.getElem?_append_left (by simp only [List.length_append, List.length_cons, List.length_nil, crt_len, tap_len, sus_len, pas_len, lwt_len, rid_len, wys_len] <;> omega)).trans ?_
  refine (List.getElem?_append_left (by simp only [List.length_append, List.length_cons, List.length_nil, crt_len, tap_len, sus_len, pas_len, lwt_len, rid_len, wys_len] <;> omega)).trans ?_
  refine (List.getElem?_append_left (by simp only [List.length_append, List.length_cons, List.length_nil, crt_len, tap_len, sus_len, pas_len, lwt_len, rid_len, wys_len] <;> omega)).trans ?_
  rfl
theorem wAll_lw : wAll Θ (gb Θ + 9) = some (.inr (2, [.int 0, .int 0, .ref (gb Θ + 10), .ref (gb Θ + 11), .ref (gb Θ + 12), .ref (gb Θ + 13)])) ∧ wAll Θ (gb Θ + 10) = some (zR' Θ 0) ∧ wAll Θ (gb Θ + 11) = some (zR' Θ 0) ∧ wAll Θ (gb Θ + 12) = some (zR' Θ 1) ∧ wAll Θ (gb Θ + 13) = some (zR' Θ 0) := ⟨pt_at (i := 9) ((wAll_pre (i := 8) (by omega)).trans rfl), pt_at (i := 10) ((wAll_pre (i := 9) (by omega)).trans rfl), pt_at (i := 11) ((wAll_pre (i := 10) (by omega)).trans rfl), pt_at (i := 12) ((wAll_pre (i := 11) (by omega)).trans rfl), pt_at (i := 13) ((wAll_pre (i := 12) (by omega)).trans rfl)⟩
end ZZ
