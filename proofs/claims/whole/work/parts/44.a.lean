/-! the makings: a world with a row of cells from b on -/
def pt (ω : OW) (b : Nat) (cs : List va_E) : OW := fun a => if b ≤ a ∧ a < b + cs.length then cs[a - b]? else ω a
section PT
variable {Θ : GP} {ω : OW} {b n i j c : Nat} {cs A B : List va_E} {h x o : va_E} {fs : List Value} {v : Value} {kk : OW → RO}
theorem pt_at (h : cs[i]? = some x) : pt ω b cs (b + i) = some x := by
  have hi : i < cs.length := (List.getElem?_eq_some_iff.mp h).1
  unfold pt
  rw [if_pos ⟨Nat.le_add_right _ _, by omega⟩, Nat.add_sub_cancel_left, h]
theorem pt_set (hi : i < cs.length) : g_upd (pt ω b cs) (b + i) x = pt ω b (cs.set i x) := by
  funext a
  unfold g_upd pt
  rw [List.length_set]
  by_cases ha : a = b + i
  · subst ha
    rw [if_pos rfl, if_pos ⟨Nat.le_add_right _ _, by omega⟩, Nat.add_sub_cancel_left, List.getElem?_set_self hi]
  · rw [if_neg ha]
    by_cases hr : b ≤ a ∧ a < b + cs.length
    · rw [if_pos hr, if_pos hr, List.getElem?_set_ne (by omega)]
    · rw [if_neg hr, if_neg hr]
theorem pt_app : pt (pt ω b A) (b + A.length) B = pt ω b (A ++ B) := by
  funext a
  unfold pt
  rw [List.length_append]
  by_cases h1 : b + A.length ≤ a ∧ a < b + A.length + B.length
  · rw [if_pos h1, if_pos ⟨by omega, by omega⟩, List.getElem?_append_right (by omega), Nat.sub_sub]
  · rw [if_neg h1]
    by_cases h2 : b ≤ a ∧ a < b + A.length
    · rw [if_pos h2, if_pos ⟨h2.1, by omega⟩, List.getElem?_append_left (by omega)]
    · rw [if_neg h2, if_neg (by omega)]
theorem pt_one : g_upd ω b x = pt ω b [x] := by
  funext a
  unfold g_upd pt
  by_cases ha : a = b
  · subst ha
    rw [if_pos rfl, if_pos ⟨Nat.le_refl _, by show a < a + 1; omega⟩, Nat.sub_self]
    rfl
  · rw [if_neg ha, if_neg]
    intro z
    have : a < b + 1 := z.2
    omega
theorem pt_sp : pt ω b (h :: (cs ++ B)) = pt (pt ω b (h :: cs)) (b + (cs.length + 1)) B := (pt_app (A := h :: cs)).symm
theorem p_n {k : Nat → OW → Nat → RO} (hn : n = b + (cs.length + 1)) : nw (pt ω b (h :: cs)) n x k = k n (pt ω b (h :: (cs ++ [x]))) (n + 1) := by
  unfold nw
  rw [pt_one, pt_sp (B := [x]), ← hn]
theorem p_w (hj : j < fs.length) : wF (pt ω b (.inr (c, fs) :: cs)) b c j v kk = kk (pt ω b (.inr (c, fs.set j v) :: cs)) := by
  have h0 : pt ω b (.inr (c, fs) :: cs) b = some (.inr (c, fs)) := pt_at (i := 0) rfl
  have h1 : g_upd (pt ω b (.inr (c, fs) :: cs)) b (.inr (c, fs.set j v)) = pt ω b (.inr (c, fs.set j v) :: cs) := pt_set (i := 0) (Nat.succ_pos _)
  unfold wF
  rw [h0]
  dsimp only
  rw [if_pos ⟨rfl, hj⟩, h1]
theorem p_r {a : Nat} {k : Nat → RO} (hx : fs[j]? = some (.ref a)) : rA (pt ω b (.inr (c, fs) :: cs)) b c j k = k a := by
  have h0 : pt ω b (.inr (c, fs) :: cs) b = some (.inr (c, fs)) := pt_at (i := 0) rfl
  unfold rA
  rw [h0]
  dsimp only
  rw [if_pos rfl, hx]
theorem p_in {F : Nat → OW → Nat → RO} {blk : List va_E} {m : Nat} (hF : ∀ ω, F n (pt ω n [o]) (n + 1) = some (.inl (none, pt ω n blk, m))) (hn : n = b + (cs.length + 1)) : F n (pt ω b (h :: (cs ++ [o]))) (n + 1) = some (.inl (none, pt ω b (h :: (cs ++ blk)), m)) := by
  rw [pt_sp (B := [o]), pt_sp (B := blk), ← hn]
  exact hF _
theorem kC_v (ω : OW) (n : Nat) (k : OW → Nat → RO) : kC (some (.inl (none, ω, n))) k = k ω n := rfl
/-- a row of numbers in it -/
theorem p_s {N p : Nat} {g : Nat → Int32} {y : Int32} (hi : i < cs.length) (hp : p < N) (hN : N < 2 ^ 31) : sI (pt ω b (h :: cs.set i (.inl (gI Θ, N, .inl g)))) (gI Θ) (b + (i + 1)) (nI p) y kk = kk (pt ω b (h :: cs.set i (.inl (gI Θ, N, .inl (upd g p y))))) := by
  have h0 : pt ω b (h :: cs.set i (.inl (gI Θ, N, .inl g))) (b + (i + 1)) = some (.inl (gI Θ, N, .inl g)) := pt_at (i := i + 1) (by rw [List.getElem?_cons_succ]; exact List.getElem?_set_self hi)
  have h1 : g_upd (pt ω b (h :: cs.set i (.inl (gI Θ, N, .inl g)))) (b + (i + 1)) (.inl (gI Θ, N, .inl (upd g p y))) = pt ω b (h :: cs.set i (.inl (gI Θ, N, .inl (upd g p y)))) := by
    rw [pt_set (by rw [List.length_cons, List.length_set]; omega), List.set_cons_succ, List.set_set]
  unfold sI
  rw [h0]
  dsimp only
  rw [if_pos ⟨rfl, nI_in hp hN⟩, nI_clamp (by omega), h1]
theorem p_fL {N : Nat} (hi : i < cs.length) (hb : N < 5000) {y : Int32} : ∀ (m p f : Nat) (g : Nat → Int32), p + m = N → m < f → L_J7_fill_53178_5 Θ f (b + (i + 1)) y (nI p) (nI N) (pt ω b (h :: cs.set i (.inl (gI Θ, N, .inl g)))) n = some (.inl (none, pt ω b (h :: cs.set i (.inl (gI Θ, N, .inl (fun j => if p ≤ j ∧ j < N then y else g j)))), n)) := by
  intro m
  induction m with
  | zero =>
    intro p f g h1 h2
    obtain ⟨f, rfl⟩ : ∃ g, f = g + 1 := ⟨f - 1, by omega⟩
    unfold L_J7_fill_53178_5 B_J7_fill_53178_5
    have e : (fun j => if p ≤ j ∧ j < N then y else g j) = g := by
      funext j; rw [if_neg (by omega)]
    rw [if_pos (nI_le (by omega) (by omega)), e]
  | succ m ih =>
    intro p f g h1 h2
    obtain ⟨f, rfl⟩ : ∃ g, f = g + 1 := ⟨f - 1, by omega⟩
    have e : (fun j => if p + 1 ≤ j ∧ j < N then y else upd g p y j) = (fun j => if p ≤ j ∧ j < N then y else g j) := by
      funext j
      unfold upd
      by_cases hj : j = p
      · subst hj
        rw [if_neg (by omega), if_pos rfl, if_pos (by omega)]
      · by_cases hq : p ≤ j ∧ j < N
        · rw [if_pos (by omega), if_pos hq]
        · rw [if_neg (by omega), if_neg hj, if_neg hq]
    unfold L_J7_fill_53178_5 B_J7_fill_53178_5
    rw [if_neg (nI_ge (by omega) (by omega)), p_s hi (by omega) (by omega), nI_1, ih (p + 1) f _ (by omega) (by omega), e]
theorem p_f {a N : Nat} {g : Nat → Int32} {y : Int32} (i : Nat) (ha : a = b + (i + 1)) (hg : cs[i]? = some (.inl (gI Θ, N, .inl g))) (hb : N < 5000) : F_J7_fill_53178 Θ a y (pt ω b (h :: cs)) n = some (.inl (none, pt ω b (h :: cs.set i (.inl (gI Θ, N, .inl (fun j => if 0 ≤ j ∧ j < N then y else g j)))), n)) := by
  have hi : i < cs.length := (List.getElem?_eq_some_iff.mp hg).1
  have hc : cs.set i (.inl (gI Θ, N, .inl g)) = cs := by
    refine List.ext_getElem? fun k => ?_
    by_cases hk : i = k
    · subst hk; rw [List.getElem?_set_self hi, hg]
    · rw [List.getElem?_set_ne hk]
  have h0 : pt ω b (h :: cs) (b + (i + 1)) = some (.inl (gI Θ, N, .inl g)) := pt_at (i := i + 1) (by rw [List.getElem?_cons_succ]; exact hg)
  have e := p_fL (Θ := Θ) (ω := ω) (b := b) (n := n) (h := h) hi hb (y := y) N 0 5000 g (by omega) (by omega)
  rw [hc] at e
  subst ha
  unfold F_J7_fill_53178 alN
  rw [h0]
  dsimp only
  rw [if_pos rfl]
  exact e
/-- a court kept among the past ones -/
theorem p_a {f : Nat → Option Nat} {k a w : Nat} {xi : Int32} (hx : xi = nI k) (hk : k < 12) (i : Nat) (ha : a = b + (i + 1)) (hg : cs[i]? = some (.inl (gC Θ, 12, .inr (.inr (.inr (.inr f)))))) (hw : pt ω b (h :: cs) w = some (.inr (0, fs))) : sAr (pt ω b (h :: cs)) (gC Θ) a xi w kk = kk (pt ω b (h :: cs.set i (.inl (gC Θ, 12, .inr (.inr (.inr (.inr (va_up f k (some w))))))))) := by
  have hi : i < cs.length := (List.getElem?_eq_some_iff.mp hg).1
  have h0 : pt ω b (h :: cs) (b + (i + 1)) = some (.inl (gC Θ, 12, .inr (.inr (.inr (.inr f))))) := pt_at (i := i + 1) (by rw [List.getElem?_cons_succ]; exact hg)
  have h1 : g_upd (pt ω b (h :: cs)) (b + (i + 1)) (.inl (gC Θ, 12, .inr (.inr (.inr (.inr (va_up f k (some w))))))) = pt ω b (h :: cs.set i (.inl (gC Θ, 12, .inr (.inr (.inr (.inr (va_up f k (some w)))))))) := by
    rw [pt_set (by rw [List.length_cons]; omega), List.set_cons_succ]
  subst ha hx
  unfold sAr
  rw [h0, hw]
  show (if gC Θ = gC Θ ∧ ¬ (nI k < 0 ∨ 12 ≤ (nI k).toNatClampNeg) then _ else _) = _
  rw [if_pos ⟨rfl, nI_in hk (by omega)⟩, nI_clamp (by omega), h1]
end PT
