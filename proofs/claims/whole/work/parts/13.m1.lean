/-! the reference's state: its numbers by field, its rows by cell -/
abbrev MS : Type := (Nat → Int32) × (Nat → Nat → Int32)
def mS (m : MS) (k : Nat) (v : Int32) : MS := (fun j => if j = k then v else m.1 j, m.2)
def mA (m : MS) (c i : Nat) (v : Int32) : MS := (m.1, fun j => if j = c then upd (m.2 c) i v else m.2 j)
def mR (m : MS) (c : Nat) (f : Nat → Int32) : MS := (m.1, fun j => if j = c then f else m.2 j)
def mfs (o : Nat) (m : MS) : List Value := [.int (m.1 0), .ref (o + 1), .ref (o + 2), .ref (o + 3), .ref (o + 4), .ref (o + 5), .int (m.1 6), .int (m.1 7), .ref (o + 6), .int (m.1 9), .int (m.1 10), .int (m.1 11), .int (m.1 12), .int (m.1 13), .int (m.1 14), .ref (o + 7), .int (m.1 16), .ref (o + 8), .int (m.1 18), .int (m.1 19), .int (m.1 20), .int (m.1 21), .int (m.1 22), .int (m.1 23), .int (m.1 24), .ref (o + 9), .ref (o + 10), .ref (o + 11), .int (m.1 28), .int (m.1 29), .int (m.1 30), .int (m.1 31), .int (m.1 32), .ref (o + 12), .ref (o + 13), .ref (o + 14), .int (m.1 36), .ref (o + 15)]
def mlen (k : Nat) : Nat := [0, 2003, 1154, 1154, 305, 3660, 400, 5, 400, 10, 10, 8, 61, 61, 10, 640].getD k 0
def mSc : List Nat := [0, 6, 7, 9, 10, 11, 12, 13, 14, 16, 18, 19, 20, 21, 22, 23, 24, 28, 29, 30, 31, 32, 36]
def mcell (Θ : GP) (o : Nat) (m : MS) (k : Nat) : va_E := if k = 0 then .inr (11, mfs o m) else .inl (if k = 6 then gB Θ else gI Θ, mlen k, .inl (m.2 k))
def layM (Θ : GP) (o : Nat) (m : MS) (ω : OW) : OW := fun a => if o ≤ a ∧ a < o + 16 then some (mcell Θ o m (a - o)) else ω a
theorem layM_at (Θ : GP) (o : Nat) (m : MS) (ω : OW) {k : Nat} (hk : k < 16) : layM Θ o m ω (o + k) = some (mcell Θ o m k) := by
  unfold layM
  rw [if_pos ⟨Nat.le_add_right _ _, by omega⟩, Nat.add_sub_cancel_left]
theorem layM_0 (Θ : GP) (o : Nat) (m : MS) (ω : OW) : layM Θ o m ω o = some (.inr (11, mfs o m)) := layM_at Θ o m ω (k := 0) (by decide)
theorem layM_i (Θ : GP) (o : Nat) (m : MS) (ω : OW) {k : Nat} (h0 : k ≠ 0) (h6 : k ≠ 6) (hk : k < 16) : layM Θ o m ω (o + k) = some (.inl (gI Θ, mlen k, .inl (m.2 k))) := by
  rw [layM_at Θ o m ω hk]
  unfold mcell
  rw [if_neg h0, if_neg h6]
theorem layM_b (Θ : GP) (o : Nat) (m : MS) (ω : OW) : layM Θ o m ω (o + 6) = some (.inl (gB Θ, 400, .inl (m.2 6))) := layM_at Θ o m ω (k := 6) (by decide)
theorem layM_upd (Θ : GP) (o : Nat) (m m' : MS) (ω : OW) {k : Nat} {x : va_E} (hk : k < 16) (h1 : mcell Θ o m' k = x) (h2 : ∀ j, j ≠ k → mcell Θ o m' j = mcell Θ o m j) : g_upd (layM Θ o m ω) (o + k) x = layM Θ o m' ω := by
  funext a
  unfold g_upd layM
  by_cases ha : a = o + k
  · subst ha
    rw [if_pos rfl, if_pos ⟨Nat.le_add_right _ _, by omega⟩, Nat.add_sub_cancel_left, h1]
  · rw [if_neg ha]
    by_cases hr : o ≤ a ∧ a < o + 16
    · rw [if_pos hr, if_pos hr, h2 _ (by omega)]
    · rw [if_neg hr, if_neg hr]
theorem mfs_set (o : Nat) (m : MS) (v : Int32) {k : Nat} (hk : k ∈ mSc) : (mfs o m).set k (.int v) = mfs o (mS m k v) := by
  simp only [mSc, List.mem_cons, List.not_mem_nil, or_false] at hk
  rcases hk with rfl | rfl | rfl | rfl | rfl | rfl | rfl | rfl | rfl | rfl | rfl | rfl | rfl | rfl | rfl | rfl | rfl | rfl | rfl | rfl | rfl | rfl | rfl
  all_goals rfl
theorem mcell_mS (Θ : GP) (o : Nat) (m : MS) (k : Nat) (v : Int32) : ∀ j, j ≠ 0 → mcell Θ o (mS m k v) j = mcell Θ o m j := by
  intro j hj
  unfold mcell mS
  rw [if_neg hj, if_neg hj]
theorem mcell_mR (Θ : GP) (o : Nat) (m : MS) (c : Nat) (f : Nat → Int32) : ∀ j, j ≠ c → mcell Θ o (mR m c f) j = mcell Θ o m j := by
  intro j hj
  unfold mcell mR
  by_cases h0 : j = 0
  · rw [if_pos h0, if_pos h0]; rfl
  · rw [if_neg h0, if_neg h0]
    show Sum.inl (_, _, Sum.inl (if j = c then f else m.2 j)) = _
    rw [if_neg hj]
theorem mA_mR (m : MS) (c i : Nat) (v : Int32) : mA m c i v = mR m c (upd (m.2 c) i v) := rfl
section MG
variable {Θ : GP} {y : MethodName} {cc : ByteArray} {nL : Nat} {ret : Option FieldType} {d : Nat} {tab : List ExceptionTableEntry} {Qv : Option Value → OW → Nat → Prop} {Qx : String → OW → Nat → Prop} {B : Nat × Nat} {pc : Nat} {lv : List (Nat × Value)} {st : List Value} {ω : OW} {n o : Nat} {m : MS}
theorem gM_get {index k : Nat} {ty : FieldType} {fin : Bool} {v : Value} (F : g_Fl y.cls index 11 k ty fin) (hd : decode cc pc = .ok (.getfield index, 3)) (hv : (mfs o m)[k]? = some v)
    (K : G Θ y cc nL ret d tab Qv Qx B (pc + 3) lv (v :: st) (layM Θ o m ω) n) : G Θ y cc nL ret d tab Qv Qx B pc lv (.ref o :: st) (layM Θ o m ω) n :=
  g_get F hd (layM_0 Θ o m ω) hv K
theorem gM_put {index k : Nat} {ty : FieldType} {v : Int32} (F : g_Fl y.cls index 11 k ty false) (hd : decode cc pc = .ok (.putfield index, 3)) (hk : k ∈ mSc) (hn : narrow ty (.int v) = .int v) (hf : fits ty (.int v) = true)
    (K : G Θ y cc nL ret d tab Qv Qx B (pc + 3) lv st (layM Θ o (mS m k v) ω) n) : G Θ y cc nL ret d tab Qv Qx B pc lv (.int v :: .ref o :: st) (layM Θ o m ω) n := by
  refine g_put F hd (layM_0 Θ o m ω) ?_ hn hf rfl ?_
  · simp only [mSc, List.mem_cons, List.not_mem_nil, or_false] at hk
    show k < 38
    omega
  · rw [mfs_set o m v hk]
    have h := layM_upd Θ o m (mS m k v) ω (k := 0) (x := .inr (11, mfs o (mS m k v))) (by decide) rfl (mcell_mS Θ o m k v)
    rw [Nat.add_zero] at h
    rw [h]
    exact K
theorem gM_iald {c : Nat} {i : Int32} (hd : decode cc pc = .ok (.iaload, 1)) (h0 : c ≠ 0) (h6 : c ≠ 6) (hc : c < 16) (hi : vp_in i (mlen c))
    (K : G Θ y cc nL ret d tab Qv Qx B (pc + 1) lv (.int (m.2 c i.toNatClampNeg) :: st) (layM Θ o m ω) n) : G Θ y cc nL ret d tab Qv Qx B pc lv (.int i :: .ref (o + c) :: st) (layM Θ o m ω) n :=
  g_iald hd (layM_i Θ o m ω h0 h6 hc) hi K
theorem gM_bald {i : Int32} (hd : decode cc pc = .ok (.baload, 1)) (hi : vp_in i 400)
    (K : G Θ y cc nL ret d tab Qv Qx B (pc + 1) lv (.int (m.2 6 i.toNatClampNeg) :: st) (layM Θ o m ω) n) : G Θ y cc nL ret d tab Qv Qx B pc lv (.int i :: .ref (o + 6) :: st) (layM Θ o m ω) n :=
  g_bald hd (layM_b Θ o m ω) hi K
theorem gM_iast {c : Nat} {i x : Int32} (hd : decode cc pc = .ok (.iastore, 1)) (h0 : c ≠ 0) (h6 : c ≠ 6) (hc : c < 16) (hi : vp_in i (mlen c))
    (K : G Θ y cc nL ret d tab Qv Qx B (pc + 1) lv st (layM Θ o (mA m c i.toNatClampNeg x) ω) n) : G Θ y cc nL ret d tab Qv Qx B pc lv (.int x :: .int i :: .ref (o + c) :: st) (layM Θ o m ω) n := by
  refine g_iast hd (layM_i Θ o m ω h0 h6 hc) hi ?_
  rw [layM_upd Θ o m (mA m c i.toNatClampNeg x) ω hc (by unfold mcell mA; rw [if_neg h0, if_neg h6, if_pos rfl]) (by rw [mA_mR]; exact mcell_mR Θ o m c _)]
  exact K
theorem gM_bast {i x : Int32} (hd : decode cc pc = .ok (.bastore, 1)) (hi : vp_in i 400)
    (K : G Θ y cc nL ret d tab Qv Qx B (pc + 1) lv st (layM Θ o (mA m 6 i.toNatClampNeg (vp_nar .byte x)) ω) n) : G Θ y cc nL ret d tab Qv Qx B pc lv (.int x :: .int i :: .ref (o + 6) :: st) (layM Θ o m ω) n := by
  refine g_bast hd (layM_b Θ o m ω) hi ?_
  rw [layM_upd Θ o m (mA m 6 i.toNatClampNeg (vp_nar .byte x)) ω (k := 6) (by decide) rfl (by rw [mA_mR]; exact mcell_mR Θ o m 6 _)]
  exact K
theorem g_nI_in {i : Int32} {K N : Nat} (hi : i = nI K) (hK : K < N) (hN : N ≤ 4000) : vp_in i N := by
  rw [hi]; exact vp_in_nI hK (by omega)
theorem g_nI_cl {i : Int32} {K N : Nat} (hi : i = nI K) (hK : K < N) (hN : N ≤ 4000) : i.toNatClampNeg = K := by
  rw [hi]; exact nI_clamp (by omega)
theorem mlen_le (c : Nat) : mlen c ≤ 4000 := by
  unfold mlen
  rcases Nat.lt_or_ge c 16 with h | h
  · have : c = 0 ∨ c = 1 ∨ c = 2 ∨ c = 3 ∨ c = 4 ∨ c = 5 ∨ c = 6 ∨ c = 7 ∨ c = 8 ∨ c = 9 ∨ c = 10 ∨ c = 11 ∨ c = 12 ∨ c = 13 ∨ c = 14 ∨ c = 15 := by omega
    rcases this with rfl | rfl | rfl | rfl | rfl | rfl | rfl | rfl | rfl | rfl | rfl | rfl | rfl | rfl | rfl | rfl <;> decide
  · rw [List.getD_eq_default _ _ (by simpa using h)]; decide
theorem gM_ld {c K : Nat} {i : Int32} (hd : decode cc pc = .ok (.iaload, 1)) (h0 : c ≠ 0) (h6 : c ≠ 6) (hc : c < 16) (hi : i = nI K) (hK : K < mlen c)
    (Kk : G Θ y cc nL ret d tab Qv Qx B (pc + 1) lv (.int (m.2 c K) :: st) (layM Θ o m ω) n) : G Θ y cc nL ret d tab Qv Qx B pc lv (.int i :: .ref (o + c) :: st) (layM Θ o m ω) n := by
  refine gM_iald hd h0 h6 hc (g_nI_in hi hK (mlen_le c)) ?_
  rw [g_nI_cl hi hK (mlen_le c)]
  exact Kk
theorem gM_ldb {K : Nat} {i : Int32} (hd : decode cc pc = .ok (.baload, 1)) (hi : i = nI K) (hK : K < 400)
    (Kk : G Θ y cc nL ret d tab Qv Qx B (pc + 1) lv (.int (m.2 6 K) :: st) (layM Θ o m ω) n) : G Θ y cc nL ret d tab Qv Qx B pc lv (.int i :: .ref (o + 6) :: st) (layM Θ o m ω) n := by
  refine gM_bald hd (g_nI_in hi hK (by decide)) ?_
  rw [g_nI_cl hi hK (by decide)]
  exact Kk
theorem gM_st {c K : Nat} {i x : Int32} (hd : decode cc pc = .ok (.iastore, 1)) (h0 : c ≠ 0) (h6 : c ≠ 6) (hc : c < 16) (hi : i = nI K) (hK : K < mlen c)
    (Kk : G Θ y cc nL ret d tab Qv Qx B (pc + 1) lv st (layM Θ o (mA m c K x) ω) n) : G Θ y cc nL ret d tab Qv Qx B pc lv (.int x :: .int i :: .ref (o + c) :: st) (layM Θ o m ω) n := by
  refine gM_iast hd h0 h6 hc (g_nI_in hi hK (mlen_le c)) ?_
  rw [g_nI_cl hi hK (mlen_le c)]
  exact Kk
theorem gM_stb {K : Nat} {i x : Int32} (hd : decode cc pc = .ok (.bastore, 1)) (hi : i = nI K) (hK : K < 400)
    (Kk : G Θ y cc nL ret d tab Qv Qx B (pc + 1) lv st (layM Θ o (mA m 6 K (vp_nar .byte x)) ω) n) : G Θ y cc nL ret d tab Qv Qx B pc lv (.int x :: .int i :: .ref (o + 6) :: st) (layM Θ o m ω) n := by
  refine gM_bast hd (g_nI_in hi hK (by decide)) ?_
  rw [g_nI_cl hi hK (by decide)]
  exact Kk
/-- the reference's contracts: an answer, a new state -/
def mQ (Θ : GP) (o : Nat) (ω : OW) (n : Nat) (r : Option Value) (m' : MS) : Option Value → OW → Nat → Prop := fun v ω' n' => v = r ∧ ω' = layM Θ o m' ω ∧ n' = n
def ConM (Θ : GP) (d o : Nat) (ω : OW) (n : Nat) (y : MethodName) (cc : ByteArray) (nL : Nat) (ret : Option FieldType) (av : List Value) (m : MS) (r : Option Value) (m' : MS) : Prop := Con Θ d 0 0 y cc nL ret (.ref o :: av) (layM Θ o m ω) n (mQ Θ o ω n r m') noX
theorem gM_call {index na d' nL' : Nat} {y' : MethodName} {cc' : ByteArray} {ret' : Option FieldType} {As st0 : List Value} {r : Option Value} {m' : MS} (L : g_Mv y.cls index RX11 y' cc' nL' ret' na) (hd : decode cc pc = .ok (.invokevirtual index, 3))
    (hm : ConM Θ d' o ω n y' cc' nL' ret' As m r m') (hna : As.length = na) (hst : st0 = As.reverse ++ .ref o :: st) (hcat : (st.map fun v => v.category).sum ≤ 8) (hdep : d' + 1 ≤ d)
    (K : G Θ y cc nL ret d [] Qv Qx B (pc + 3) lv (r.toList ++ st) (layM Θ o m' ω) n) : G Θ y cc nL ret d [] Qv Qx B pc lv st0 (layM Θ o m ω) n := by
  refine g_callV (ci := 11) (T := TX11) (N := 38) L hd rfl (layM_0 Θ o m ω) hna hst hcat hm hdep (Nat.zero_le _) (Nat.zero_le _) rfl (fun _ _ _ h => h.elim) ?_
  rintro v ω' n' ⟨rfl, rfl, rfl⟩
  exact K
theorem gM_callS {index na d' nL' : Nat} {y' : MethodName} {cc' : ByteArray} {ret' : Option FieldType} {As st0 : List Value} {r : Option Value} {ω1 : OW} (L : g_Ms y.cls index y' cc' nL' ret' na) (hd : decode cc pc = .ok (.invokestatic index, 3))
    (hm : Con Θ d' 0 0 y' cc' nL' ret' As ω1 n (fun v ω' n' => v = r ∧ ω' = ω1 ∧ n' = n) noX) (hna : As.length = na) (hst : st0 = As.reverse ++ st) (hcat : (st.map fun v => v.category).sum ≤ 8) (hdep : d' + 1 ≤ d)
    (K : G Θ y cc nL ret d [] Qv Qx B (pc + 3) lv (r.toList ++ st) ω1 n) : G Θ y cc nL ret d [] Qv Qx B pc lv st0 ω1 n := by
  refine g_callS L hd hna hst hcat hm hdep (Nat.zero_le _) (Nat.zero_le _) rfl (fun _ _ _ h => h.elim) ?_
  rintro v ω' n' ⟨rfl, rfl, rfl⟩
  exact K
end MG
