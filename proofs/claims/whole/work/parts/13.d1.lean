/-! Programs as functions of the world: what a method answers (or throws) and the world behind it. 'none': something that is not told (an index outside its row, a cell of another kind, no fuel). -/
abbrev Out : Type := (Option Value × OW × Nat) ⊕ (String × OW)
abbrev RO : Type := Option Out
def kI (r : RO) (k : Int32 → OW → Nat → RO) : RO := match r with
  | some (.inl (some (.int x), ω, n)) => k x ω n
  | some (.inr e) => some (.inr e)
  | _ => none
def kV (r : RO) (k : OW → Nat → RO) : RO := match r with
  | some (.inl (none, ω, n)) => k ω n
  | some (.inr e) => some (.inr e)
  | _ => none
def kA (r : RO) (k : Nat → OW → Nat → RO) : RO := match r with
  | some (.inl (some (.ref a), ω, n)) => k a ω n
  | some (.inr e) => some (.inr e)
  | _ => none
def kN (r : RO) (k : Nat → OW → Nat → RO) (k0 : OW → Nat → RO) : RO := match r with
  | some (.inl (some (.ref a), ω, n)) => k a ω n
  | some (.inl (some .null, ω, n)) => k0 ω n
  | some (.inr e) => some (.inr e)
  | _ => none
def rI (ω : OW) (a ci j : Nat) (k : Int32 → RO) : RO := match ω a with
  | some (.inr (c, fs)) => if c = ci then (match fs[j]? with
    | some (.int x) => k x
    | _ => none) else none
  | _ => none
def rA (ω : OW) (a ci j : Nat) (k : Nat → RO) : RO := match ω a with
  | some (.inr (c, fs)) => if c = ci then (match fs[j]? with
    | some (.ref x) => k x
    | _ => none) else none
  | _ => none
def rL (ω : OW) (a ci j : Nat) (k : Int64 → RO) : RO := match ω a with
  | some (.inr (c, fs)) => if c = ci then (match fs[j]? with
    | some (.long x) => k x
    | _ => none) else none
  | _ => none
def wF (ω : OW) (a ci j : Nat) (v : Value) (k : OW → RO) : RO := match ω a with
  | some (.inr (c, fs)) => if c = ci ∧ j < fs.length then k (g_upd ω a (.inr (ci, fs.set j v))) else none
  | _ => none
def cO (ω : OW) (a ci : Nat) (k : RO) : RO := match ω a with
  | some (.inr (c, _)) => if c = ci then k else none
  | _ => none
def lI (ω : OW) (cA : ClassId) (a : Nat) (i : Int32) (k : Int32 → RO) : RO := match ω a with
  | some (.inl (c, len, .inl f)) => if c = cA ∧ ¬ (i < 0 ∨ len ≤ i.toNatClampNeg) then k (f i.toNatClampNeg) else none
  | _ => none
def sI (ω : OW) (cA : ClassId) (a : Nat) (i x : Int32) (k : OW → RO) : RO := match ω a with
  | some (.inl (c, len, .inl f)) => if c = cA ∧ ¬ (i < 0 ∨ len ≤ i.toNatClampNeg) then k (g_upd ω a (.inl (cA, len, .inl (upd f i.toNatClampNeg x)))) else none
  | _ => none
def lA (ω : OW) (cA : ClassId) (a : Nat) (i : Int32) (k : Nat → RO) : RO := match ω a with
  | some (.inl (c, len, .inr (.inr (.inr (.inr f))))) => if c = cA ∧ ¬ (i < 0 ∨ len ≤ i.toNatClampNeg) then (match f i.toNatClampNeg with
    | some x => k x
    | none => none) else none
  | _ => none
def alN (ω : OW) (a : Nat) (cA : ClassId) (k : Int32 → RO) : RO := match ω a with
  | some (.inl (c, x)) => if c = cA then k (Int32.ofNat x.1) else none
  | _ => none
def cpI (ω : OW) (cA : ClassId) (a0 : Nat) (sp : Int32) (a : Nat) (dp kk : Int32) (k : OW → RO) : RO := match ω a0, ω a with
  | some (.inl (c0, n0, .inl f)), some (.inl (c1, n1, .inl g)) => if (c0 = cA ∧ c1 = cA) ∧ ¬ sp < 0 ∧ ¬ dp < 0 ∧ ¬ kk < 0 ∧ sp.toNatClampNeg + kk.toNatClampNeg ≤ n0 ∧ dp.toNatClampNeg + kk.toNatClampNeg ≤ n1 then k (g_upd ω a (.inl (cA, n1, .inl (va_cpy f g sp.toNatClampNeg dp.toNatClampNeg kk.toNatClampNeg)))) else none
  | _, _ => none
theorem kI_inv {R : RO} {k : Int32 → OW → Nat → RO} {r : Out} (h : kI R k = some r) : (∃ x ω n, R = some (.inl (some (.int x), ω, n)) ∧ k x ω n = some r) ∨ ∃ e, R = some (.inr e) ∧ r = .inr e := by
  unfold kI at h
  split at h
  · exact Or.inl ⟨_, _, _, rfl, h⟩
  · cases h; exact Or.inr ⟨_, rfl, rfl⟩
  · cases h
theorem kV_inv {R : RO} {k : OW → Nat → RO} {r : Out} (h : kV R k = some r) : (∃ ω n, R = some (.inl (none, ω, n)) ∧ k ω n = some r) ∨ ∃ e, R = some (.inr e) ∧ r = .inr e := by
  unfold kV at h
  split at h
  · exact Or.inl ⟨_, _, rfl, h⟩
  · cases h; exact Or.inr ⟨_, rfl, rfl⟩
  · cases h
theorem kA_inv {R : RO} {k : Nat → OW → Nat → RO} {r : Out} (h : kA R k = some r) : (∃ x ω n, R = some (.inl (some (.ref x), ω, n)) ∧ k x ω n = some r) ∨ ∃ e, R = some (.inr e) ∧ r = .inr e := by
  unfold kA at h
  split at h
  · exact Or.inl ⟨_, _, _, rfl, h⟩
  · cases h; exact Or.inr ⟨_, rfl, rfl⟩
  · cases h
theorem kN_inv {R : RO} {k : Nat → OW → Nat → RO} {k0 : OW → Nat → RO} {r : Out} (h : kN R k k0 = some r) : (∃ x ω n, R = some (.inl (some (.ref x), ω, n)) ∧ k x ω n = some r) ∨ (∃ ω n, R = some (.inl (some .null, ω, n)) ∧ k0 ω n = some r) ∨ ∃ e, R = some (.inr e) ∧ r = .inr e := by
  unfold kN at h
  split at h
  · exact Or.inl ⟨_, _, _, rfl, h⟩
  · exact Or.inr (Or.inl ⟨_, _, rfl, h⟩)
  · cases h; exact Or.inr (Or.inr ⟨_, rfl, rfl⟩)
  · cases h
theorem rI_inv {ω : OW} {a ci j : Nat} {k : Int32 → RO} {r : Out} (h : rI ω a ci j k = some r) : ∃ fs x, ω a = some (.inr (ci, fs)) ∧ fs[j]? = some (.int x) ∧ k x = some r := by
  unfold rI at h
  split at h
  · split at h
    · split at h
      · rename_i hc _ _ _; subst hc; exact ⟨_, _, by assumption, by assumption, h⟩
      · cases h
    · cases h
  · cases h
theorem rA_inv {ω : OW} {a ci j : Nat} {k : Nat → RO} {r : Out} (h : rA ω a ci j k = some r) : ∃ fs x, ω a = some (.inr (ci, fs)) ∧ fs[j]? = some (.ref x) ∧ k x = some r := by
  unfold rA at h
  split at h
  · split at h
    · split at h
      · rename_i hc _ _ _; subst hc; exact ⟨_, _, by assumption, by assumption, h⟩
      · cases h
    · cases h
  · cases h
theorem rL_inv {ω : OW} {a ci j : Nat} {k : Int64 → RO} {r : Out} (h : rL ω a ci j k = some r) : ∃ fs x, ω a = some (.inr (ci, fs)) ∧ fs[j]? = some (.long x) ∧ k x = some r := by
  unfold rL at h
  split at h
  · split at h
    · split at h
      · rename_i hc _ _ _; subst hc; exact ⟨_, _, by assumption, by assumption, h⟩
      · cases h
    · cases h
  · cases h
theorem wF_inv {ω : OW} {a ci j : Nat} {v : Value} {k : OW → RO} {r : Out} (h : wF ω a ci j v k = some r) : ∃ fs, ω a = some (.inr (ci, fs)) ∧ j < fs.length ∧ k (g_upd ω a (.inr (ci, fs.set j v))) = some r := by
  unfold wF at h
  split at h
  · split at h
    · rename_i hc; obtain ⟨rfl, hj⟩ := hc; exact ⟨_, by assumption, hj, h⟩
    · cases h
  · cases h
theorem cO_inv {ω : OW} {a ci : Nat} {k : RO} {r : Out} (h : cO ω a ci k = some r) : ∃ fs, ω a = some (.inr (ci, fs)) ∧ k = some r := by
  unfold cO at h
  split at h
  · split at h
    · rename_i hc; subst hc; exact ⟨_, by assumption, h⟩
    · cases h
  · cases h
theorem lI_inv {ω : OW} {cA : ClassId} {a : Nat} {i : Int32} {k : Int32 → RO} {r : Out} (h : lI ω cA a i k = some r) : ∃ len f, ω a = some (.inl (cA, len, .inl f)) ∧ vp_in i len ∧ k (f i.toNatClampNeg) = some r := by
  unfold lI at h
  split at h
  · split at h
    · rename_i hc; obtain ⟨rfl, hj⟩ := hc; exact ⟨_, _, by assumption, hj, h⟩
    · cases h
  · cases h
theorem sI_inv {ω : OW} {cA : ClassId} {a : Nat} {i x : Int32} {k : OW → RO} {r : Out} (h : sI ω cA a i x k = some r) : ∃ len f, ω a = some (.inl (cA, len, .inl f)) ∧ vp_in i len ∧ k (g_upd ω a (.inl (cA, len, .inl (upd f i.toNatClampNeg x)))) = some r := by
  unfold sI at h
  split at h
  · split at h
    · rename_i hc; obtain ⟨rfl, hj⟩ := hc; exact ⟨_, _, by assumption, hj, h⟩
    · cases h
  · cases h
theorem lA_inv {ω : OW} {cA : ClassId} {a : Nat} {i : Int32} {k : Nat → RO} {r : Out} (h : lA ω cA a i k = some r) : ∃ len f x, ω a = some (.inl (cA, len, .inr (.inr (.inr (.inr f))))) ∧ vp_in i len ∧ f i.toNatClampNeg = some x ∧ k x = some r := by
  unfold lA at h
  split at h
  · split at h
    · split at h
      · rename_i hc _ _ _; obtain ⟨rfl, hj⟩ := hc; exact ⟨_, _, _, by assumption, hj, by assumption, h⟩
      · cases h
    · cases h
  · cases h
theorem alN_inv {ω : OW} {cA : ClassId} {a : Nat} {k : Int32 → RO} {r : Out} (h : alN ω a cA k = some r) : ∃ x, ω a = some (.inl (cA, x)) ∧ k (Int32.ofNat x.1) = some r := by
  unfold alN at h
  split at h
  · split at h
    · rename_i hc; subst hc; exact ⟨_, by assumption, h⟩
    · cases h
  · cases h
theorem cpI_inv {ω : OW} {cA : ClassId} {a0 a : Nat} {sp dp kk : Int32} {k : OW → RO} {r : Out} (h : cpI ω cA a0 sp a dp kk k = some r) : ∃ n0 f n1 g, ω a0 = some (.inl (cA, n0, .inl f)) ∧ ω a = some (.inl (cA, n1, .inl g)) ∧ (¬ sp < 0 ∧ ¬ dp < 0 ∧ ¬ kk < 0 ∧ sp.toNatClampNeg + kk.toNatClampNeg ≤ n0 ∧ dp.toNatClampNeg + kk.toNatClampNeg ≤ n1) ∧ k (g_upd ω a (.inl (cA, n1, .inl (va_cpy f g sp.toNatClampNeg dp.toNatClampNeg kk.toNatClampNeg)))) = some r := by
  unfold cpI at h
  split at h
  · split at h
    · rename_i hc; obtain ⟨⟨rfl, rfl⟩, hj⟩ := hc; exact ⟨_, _, _, _, by assumption, by assumption, hj, h⟩
    · cases h
  · cases h
/-- the contract of a method by its function -/
def qv (r : Out) : Option Value → OW → Nat → Prop := fun v ω n => r = .inl (v, ω, n)
def qx (r : Out) : String → OW → Nat → Prop := fun E ω _ => r = .inr (E, ω)
def Ok (Θ : GP) (d cs sl : Nat) (y : MethodName) (cc : ByteArray) (nL : Nat) (ret : Option FieldType) (av : List Value) (ω : OW) (n : Nat) (F : RO) : Prop := ∀ r : Out, F = some r → Con Θ d cs sl y cc nL ret av ω n (qv r) (qx r)
abbrev GR (Θ : GP) (y : MethodName) (cc : ByteArray) (nL : Nat) (ret : Option FieldType) (d : Nat) (B : Nat × Nat) (pc : Nat) (lv : List (Nat × Value)) (st : List Value) (ω : OW) (n : Nat) (r : Out) : Prop := G Θ y cc nL ret d [] (qv r) (qx r) B pc lv st ω n
section GD
variable {Θ : GP} {y : MethodName} {cc : ByteArray} {nL : Nat} {ret : Option FieldType} {d : Nat} {B : Nat × Nat} {pc : Nat} {lv : List (Nat × Value)} {st : List Value} {ω : OW} {n : Nat} {r : Out}
theorem Ok.of {cs sl : Nat} {av : List Value} {F : RO} (hy : plainName y.cls = true) (hn : (lg_sl av).length ≤ nL) (k : ∀ r, F = some r → GR Θ y cc nL ret d (cs, sl) 0 (lv_args 0 av) [] ω n r) : Ok Θ d cs sl y cc nL ret av ω n F := fun r h => Con.of hy hn (k r h)
theorem g_kI {index na ci a d' cs' sl' nL' N : Nat} {C : String} {T : u_T} {y' : MethodName} {cc' : ByteArray} {ret' : Option FieldType} {As st0 fs : List Value} {R : RO} {k : Int32 → OW → Nat → RO} (L : g_Mv y.cls index C y' cc' nL' ret' na) (hd : decode cc pc = .ok (.invokevirtual index, 3)) (hc : vwCl[ci]? = some (C, T, N)) (ha : ω a = some (.inr (ci, fs)))
    (hm : Ok Θ d' cs' sl' y' cc' nL' ret' (.ref a :: As) ω n R) (hna : As.length = na) (hst : st0 = As.reverse ++ .ref a :: st) (hcat : (st.map fun v => v.category).sum ≤ 8) (hdep : d' + 1 ≤ d) (hB1 : cs' ≤ B.1) (hB2 : sl' ≤ B.2) (h : kI R k = some r)
    (K : ∀ x ω' n', k x ω' n' = some r → GR Θ y cc nL ret d (B.1 - cs', B.2 - sl') (pc + 3) lv (.int x :: st) ω' n' r) : GR Θ y cc nL ret d B pc lv st0 ω n r := by
  rcases kI_inv h with ⟨x, ω1, n1, e1, e2⟩ | ⟨e, e1, rfl⟩
  · refine g_callV L hd hc ha hna hst hcat (hm _ e1) hdep hB1 hB2 rfl (fun E ω' n' h => by cases h) ?_
    intro v ω' n' hv
    cases hv
    exact K _ _ _ e2
  · refine g_callV L hd hc ha hna hst hcat (hm _ e1) hdep hB1 hB2 rfl (fun E ω' n' h => h) ?_
    intro v ω' n' hv
    cases hv
theorem g_kV {index na ci a d' cs' sl' nL' N : Nat} {C : String} {T : u_T} {y' : MethodName} {cc' : ByteArray} {ret' : Option FieldType} {As st0 fs : List Value} {R : RO} {k : OW → Nat → RO} (L : g_Mv y.cls index C y' cc' nL' ret' na) (hd : decode cc pc = .ok (.invokevirtual index, 3)) (hc : vwCl[ci]? = some (C, T, N)) (ha : ω a = some (.inr (ci, fs)))
    (hm : Ok Θ d' cs' sl' y' cc' nL' ret' (.ref a :: As) ω n R) (hna : As.length = na) (hst : st0 = As.reverse ++ .ref a :: st) (hcat : (st.map fun v => v.category).sum ≤ 8) (hdep : d' + 1 ≤ d) (hB1 : cs' ≤ B.1) (hB2 : sl' ≤ B.2) (h : kV R k = some r)
    (K : ∀ ω' n', k ω' n' = some r → GR Θ y cc nL ret d (B.1 - cs', B.2 - sl') (pc + 3) lv st ω' n' r) : GR Θ y cc nL ret d B pc lv st0 ω n r := by
  rcases kV_inv h with ⟨ω1, n1, e1, e2⟩ | ⟨e, e1, rfl⟩
  · refine g_callV L hd hc ha hna hst hcat (hm _ e1) hdep hB1 hB2 rfl (fun E ω' n' h => by cases h) ?_
    intro v ω' n' hv
    cases hv
    exact K _ _ e2
  · refine g_callV L hd hc ha hna hst hcat (hm _ e1) hdep hB1 hB2 rfl (fun E ω' n' h => h) ?_
    intro v ω' n' hv
    cases hv
theorem g_kA {index na ci a d' cs' sl' nL' N : Nat} {C : String} {T : u_T} {y' : MethodName} {cc' : ByteArray} {ret' : Option FieldType} {As st0 fs : List Value} {R : RO} {k : Nat → OW → Nat → RO} (L : g_Mv y.cls index C y' cc' nL' ret' na) (hd : decode cc pc = .ok (.invokevirtual index, 3)) (hc : vwCl[ci]? = some (C, T, N)) (ha : ω a = some (.inr (ci, fs)))
    (hm : Ok Θ d' cs' sl' y' cc' nL' ret' (.ref a :: As) ω n R) (hna : As.length = na) (hst : st0 = As.reverse ++ .ref a :: st) (hcat : (st.map fun v => v.category).sum ≤ 8) (hdep : d' + 1 ≤ d) (hB1 : cs' ≤ B.1) (hB2 : sl' ≤ B.2) (h : kA R k = some r)
    (K : ∀ x ω' n', k x ω' n' = some r → GR Θ y cc nL ret d (B.1 - cs', B.2 - sl') (pc + 3) lv (.ref x :: st) ω' n' r) : GR Θ y cc nL ret d B pc lv st0 ω n r := by
  rcases kA_inv h with ⟨x, ω1, n1, e1, e2⟩ | ⟨e, e1, rfl⟩
  · refine g_callV L hd hc ha hna hst hcat (hm _ e1) hdep hB1 hB2 rfl (fun E ω' n' h => by cases h) ?_
    intro v ω' n' hv
    cases hv
    exact K _ _ _ e2
  · refine g_callV L hd hc ha hna hst hcat (hm _ e1) hdep hB1 hB2 rfl (fun E ω' n' h => h) ?_
    intro v ω' n' hv
    cases hv
theorem g_kN {index na ci a d' cs' sl' nL' N : Nat} {C : String} {T : u_T} {y' : MethodName} {cc' : ByteArray} {ret' : Option FieldType} {As st0 fs : List Value} {R : RO} {k : Nat → OW → Nat → RO} {k0 : OW → Nat → RO} (L : g_Mv y.cls index C y' cc' nL' ret' na) (hd : decode cc pc = .ok (.invokevirtual index, 3)) (hc : vwCl[ci]? = some (C, T, N)) (ha : ω a = some (.inr (ci, fs)))
    (hm : Ok Θ d' cs' sl' y' cc' nL' ret' (.ref a :: As) ω n R) (hna : As.length = na) (hst : st0 = As.reverse ++ .ref a :: st) (hcat : (st.map fun v => v.category).sum ≤ 8) (hdep : d' + 1 ≤ d) (hB1 : cs' ≤ B.1) (hB2 : sl' ≤ B.2) (h : kN R k k0 = some r)
    (K : ∀ x ω' n', k x ω' n' = some r → GR Θ y cc nL ret d (B.1 - cs', B.2 - sl') (pc + 3) lv (.ref x :: st) ω' n' r) (K0 : ∀ ω' n', k0 ω' n' = some r → GR Θ y cc nL ret d (B.1 - cs', B.2 - sl') (pc + 3) lv (.null :: st) ω' n' r) : GR Θ y cc nL ret d B pc lv st0 ω n r := by
  rcases kN_inv h with ⟨x, ω1, n1, e1, e2⟩ | ⟨ω1, n1, e1, e2⟩ | ⟨e, e1, rfl⟩
  · refine g_callV L hd hc ha hna hst hcat (hm _ e1) hdep hB1 hB2 rfl (fun E ω' n' h => by cases h) ?_
    intro v ω' n' hv
    cases hv
    exact K _ _ _ e2
  · refine g_callV L hd hc ha hna hst hcat (hm _ e1) hdep hB1 hB2 rfl (fun E ω' n' h => by cases h) ?_
    intro v ω' n' hv
    cases hv
    exact K0 _ _ e2
  · refine g_callV L hd hc ha hna hst hcat (hm _ e1) hdep hB1 hB2 rfl (fun E ω' n' h => h) ?_
    intro v ω' n' hv
    cases hv
theorem g_sI {index na d' cs' sl' nL' : Nat} {y' : MethodName} {cc' : ByteArray} {ret' : Option FieldType} {As st0 : List Value} {R : RO} {k : Int32 → OW → Nat → RO} (L : g_Ms y.cls index y' cc' nL' ret' na) (hd : decode cc pc = .ok (.invokestatic index, 3))
    (hm : Ok Θ d' cs' sl' y' cc' nL' ret' As ω n R) (hna : As.length = na) (hst : st0 = As.reverse ++ st) (hcat : (st.map fun v => v.category).sum ≤ 8) (hdep : d' + 1 ≤ d) (hB1 : cs' ≤ B.1) (hB2 : sl' ≤ B.2) (h : kI R k = some r)
    (K : ∀ x ω' n', k x ω' n' = some r → GR Θ y cc nL ret d (B.1 - cs', B.2 - sl') (pc + 3) lv (.int x :: st) ω' n' r) : GR Θ y cc nL ret d B pc lv st0 ω n r := by
  rcases kI_inv h with ⟨x, ω1, n1, e1, e2⟩ | ⟨e, e1, rfl⟩
  · refine g_callS L hd hna hst hcat (hm _ e1) hdep hB1 hB2 rfl (fun E ω' n' h => by cases h) ?_
    intro v ω' n' hv
    cases hv
    exact K _ _ _ e2
  · refine g_callS L hd hna hst hcat (hm _ e1) hdep hB1 hB2 rfl (fun E ω' n' h => h) ?_
    intro v ω' n' hv
    cases hv
theorem g_sV {index na d' cs' sl' nL' : Nat} {y' : MethodName} {cc' : ByteArray} {ret' : Option FieldType} {As st0 : List Value} {R : RO} {k : OW → Nat → RO} (L : g_Ms y.cls index y' cc' nL' ret' na) (hd : decode cc pc = .ok (.invokestatic index, 3))
    (hm : Ok Θ d' cs' sl' y' cc' nL' ret' As ω n R) (hna : As.length = na) (hst : st0 = As.reverse ++ st) (hcat : (st.map fun v => v.category).sum ≤ 8) (hdep : d' + 1 ≤ d) (hB1 : cs' ≤ B.1) (hB2 : sl' ≤ B.2) (h : kV R k = some r)
    (K : ∀ ω' n', k ω' n' = some r → GR Θ y cc nL ret d (B.1 - cs', B.2 - sl') (pc + 3) lv st ω' n' r) : GR Θ y cc nL ret d B pc lv st0 ω n r := by
  rcases kV_inv h with ⟨ω1, n1, e1, e2⟩ | ⟨e, e1, rfl⟩
  · refine g_callS L hd hna hst hcat (hm _ e1) hdep hB1 hB2 rfl (fun E ω' n' h => by cases h) ?_
    intro v ω' n' hv
    cases hv
    exact K _ _ e2
  · refine g_callS L hd hna hst hcat (hm _ e1) hdep hB1 hB2 rfl (fun E ω' n' h => h) ?_
    intro v ω' n' hv
    cases hv
end GD
