section GE
variable {Θ : GP} {y : MethodName} {cc : ByteArray} {nL : Nat} {ret : Option FieldType} {d : Nat} {B : Nat × Nat} {pc : Nat} {lv : List (Nat × Value)} {st : List Value} {ω : OW} {n : Nat} {r : Out}
theorem g_rI {index ci j a : Nat} {ty : FieldType} {fin : Bool} {k : Int32 → RO} (F : g_Fl y.cls index ci j ty fin) (hd : decode cc pc = .ok (.getfield index, 3)) (h : rI ω a ci j k = some r)
    (K : ∀ x, k x = some r → GR Θ y cc nL ret d B (pc + 3) lv (.int x :: st) ω n r) : GR Θ y cc nL ret d B pc lv (.ref a :: st) ω n r := by
  obtain ⟨fs, x, h1, h2, h3⟩ := rI_inv h
  exact g_get F hd h1 h2 (K x h3)
theorem g_rA {index ci j a : Nat} {ty : FieldType} {fin : Bool} {k : Nat → RO} (F : g_Fl y.cls index ci j ty fin) (hd : decode cc pc = .ok (.getfield index, 3)) (h : rA ω a ci j k = some r)
    (K : ∀ x, k x = some r → GR Θ y cc nL ret d B (pc + 3) lv (.ref x :: st) ω n r) : GR Θ y cc nL ret d B pc lv (.ref a :: st) ω n r := by
  obtain ⟨fs, x, h1, h2, h3⟩ := rA_inv h
  exact g_get F hd h1 h2 (K x h3)
theorem g_rL {index ci j a : Nat} {ty : FieldType} {fin : Bool} {k : Int64 → RO} (F : g_Fl y.cls index ci j ty fin) (hd : decode cc pc = .ok (.getfield index, 3)) (h : rL ω a ci j k = some r)
    (K : ∀ x, k x = some r → GR Θ y cc nL ret d B (pc + 3) lv (.long x :: st) ω n r) : GR Θ y cc nL ret d B pc lv (.ref a :: st) ω n r := by
  obtain ⟨fs, x, h1, h2, h3⟩ := rL_inv h
  exact g_get F hd h1 h2 (K x h3)
theorem g_wF {index ci j a : Nat} {ty : FieldType} {v : Value} {k : OW → RO} (F : g_Fl y.cls index ci j ty false) (hd : decode cc pc = .ok (.putfield index, 3)) (hn : narrow ty v = v) (hf : fits ty v = true) (h : wF ω a ci j v k = some r)
    (K : ∀ ω', k ω' = some r → GR Θ y cc nL ret d B (pc + 3) lv st ω' n r) : GR Θ y cc nL ret d B pc lv (v :: .ref a :: st) ω n r := by
  obtain ⟨fs, h1, h2, h3⟩ := wF_inv h
  exact g_put F hd h1 h2 hn hf rfl (K _ h3)
theorem g_wFF {index ci j a : Nat} {ty : FieldType} {v : Value} {k : OW → RO} (F : g_Fl y.cls index ci j ty true) (hin : y.name = "<init>") (hdecl : ∀ C T N, vwCl[ci]? = some (C, T, N) → C = y.cls) (hd : decode cc pc = .ok (.putfield index, 3)) (hn : narrow ty v = v) (hf : fits ty v = true) (h : wF ω a ci j v k = some r)
    (K : ∀ ω', k ω' = some r → GR Θ y cc nL ret d B (pc + 3) lv st ω' n r) : GR Θ y cc nL ret d B pc lv (v :: .ref a :: st) ω n r := by
  obtain ⟨fs, h1, h2, h3⟩ := wF_inv h
  exact g_putF F hin hdecl hd h1 h2 hn hf rfl (K _ h3)
theorem g_lIi {a : Nat} {i : Int32} {k : Int32 → RO} (hd : decode cc pc = .ok (.iaload, 1)) (h : lI ω (gI Θ) a i k = some r) (K : ∀ x, k x = some r → GR Θ y cc nL ret d B (pc + 1) lv (.int x :: st) ω n r) : GR Θ y cc nL ret d B pc lv (.int i :: .ref a :: st) ω n r := by
  obtain ⟨len, f, h1, h2, h3⟩ := lI_inv h
  exact g_iald hd h1 h2 (K _ h3)
theorem g_lIb {a : Nat} {i : Int32} {k : Int32 → RO} (hd : decode cc pc = .ok (.baload, 1)) (h : lI ω (gB Θ) a i k = some r) (K : ∀ x, k x = some r → GR Θ y cc nL ret d B (pc + 1) lv (.int x :: st) ω n r) : GR Θ y cc nL ret d B pc lv (.int i :: .ref a :: st) ω n r := by
  obtain ⟨len, f, h1, h2, h3⟩ := lI_inv h
  exact g_bald hd h1 h2 (K _ h3)
theorem g_lIz {a : Nat} {i : Int32} {k : Int32 → RO} (hd : decode cc pc = .ok (.baload, 1)) (h : lI ω (gZ Θ) a i k = some r) (K : ∀ x, k x = some r → GR Θ y cc nL ret d B (pc + 1) lv (.int x :: st) ω n r) : GR Θ y cc nL ret d B pc lv (.int i :: .ref a :: st) ω n r := by
  obtain ⟨len, f, h1, h2, h3⟩ := lI_inv h
  exact g_zald hd h1 h2 (K _ h3)
theorem g_lAa {a : Nat} {i : Int32} {k : Nat → RO} (hd : decode cc pc = .ok (.aaload, 1)) (h : lA ω (gC Θ) a i k = some r) (K : ∀ x, k x = some r → GR Θ y cc nL ret d B (pc + 1) lv (.ref x :: st) ω n r) : GR Θ y cc nL ret d B pc lv (.int i :: .ref a :: st) ω n r := by
  obtain ⟨len, f, x, h1, h2, h4, h3⟩ := lA_inv h
  refine g_aald hd h1 h2 ?_
  rw [h4]
  exact K _ h3
theorem g_lNn {a t0 : Nat} {cA : ClassId} {ty : FieldType} {k : Int32 → RO} (hd : decode cc pc = .ok (.arraylength, 1)) (hk : ([(gI Θ, .int), (gB Θ, .byte), (gZ Θ, .boolean), (gJ Θ, .long), (gC Θ, .object "GhostAssize$Court")] : List (ClassId × FieldType))[t0]? = some (cA, ty)) (h : alN ω a cA k = some r) (K : ∀ x, k x = some r → GR Θ y cc nL ret d B (pc + 1) lv (.int x :: st) ω n r) : GR Θ y cc nL ret d B pc lv (.ref a :: st) ω n r := by
  obtain ⟨x, h1, h3⟩ := alN_inv h
  exact g_alen hd h1 hk rfl (K _ h3)
theorem g_sIi {a : Nat} {i x : Int32} {k : OW → RO} (hd : decode cc pc = .ok (.iastore, 1)) (h : sI ω (gI Θ) a i x k = some r) (K : ∀ ω', k ω' = some r → GR Θ y cc nL ret d B (pc + 1) lv st ω' n r) : GR Θ y cc nL ret d B pc lv (.int x :: .int i :: .ref a :: st) ω n r := by
  obtain ⟨len, f, h1, h2, h3⟩ := sI_inv h
  exact g_iast hd h1 h2 (K _ h3)
theorem g_sIb {a : Nat} {i x : Int32} {k : OW → RO} (hd : decode cc pc = .ok (.bastore, 1)) (h : sI ω (gB Θ) a i (vp_nar .byte x) k = some r) (K : ∀ ω', k ω' = some r → GR Θ y cc nL ret d B (pc + 1) lv st ω' n r) : GR Θ y cc nL ret d B pc lv (.int x :: .int i :: .ref a :: st) ω n r := by
  obtain ⟨len, f, h1, h2, h3⟩ := sI_inv h
  exact g_bast hd h1 h2 (K _ h3)
theorem g_sIz {a : Nat} {i x : Int32} {k : OW → RO} (hd : decode cc pc = .ok (.bastore, 1)) (h : sI ω (gZ Θ) a i (vp_nar .boolean x) k = some r) (K : ∀ ω', k ω' = some r → GR Θ y cc nL ret d B (pc + 1) lv st ω' n r) : GR Θ y cc nL ret d B pc lv (.int x :: .int i :: .ref a :: st) ω n r := by
  obtain ⟨len, f, h1, h2, h3⟩ := sI_inv h
  exact g_zast hd h1 h2 (K _ h3)
theorem g_cp {index a0 a : Nat} {sp dp kk : Int32} {k : OW → RO} (hl : Cond.methodLink y.cls index arraycopyName ∈ g_T) (hn : Cond.native arraycopyName ∈ g_T) (hs : Cond.static arraycopyName ∈ g_T) (hini : Cond.initialized "java/lang/System" ∈ g_T) (hd : decode cc pc = .ok (.invokestatic index, 3)) (hdep : 1 ≤ d) (hcat : (st.map fun v => v.category).sum ≤ 8) (h : cpI ω (gI Θ) a0 sp a dp kk k = some r)
    (K : ∀ ω', k ω' = some r → GR Θ y cc nL ret d B (pc + 3) lv st ω' n r) : GR Θ y cc nL ret d B pc lv (.int kk :: .int dp :: .ref a :: .int sp :: .ref a0 :: st) ω n r := by
  obtain ⟨n0, f, n1, g, h1, h2, ⟨i1, i2, i3, i4, i5⟩, h3⟩ := cpI_inv h
  exact g_copyi hl hn hs hini hd h1 h2 i1 i2 i3 i4 i5 hdep hcat (K _ h3)
theorem g_cI {index na ci a d' cs' sl' nL' N : Nat} {C : String} {T : u_T} {y' : MethodName} {cc' : ByteArray} {ret' : Option FieldType} {As st0 : List Value} {R : RO} {k : Int32 → OW → Nat → RO} (L : g_Mv y.cls index C y' cc' nL' ret' na) (hd : decode cc pc = .ok (.invokevirtual index, 3)) (hc : vwCl[ci]? = some (C, T, N))
    (hm : Ok Θ d' cs' sl' y' cc' nL' ret' (.ref a :: As) ω n R) (hna : As.length = na) (hst : st0 = As.reverse ++ .ref a :: st) (hcat : (st.map fun v => v.category).sum ≤ 8) (hdep : d' + 1 ≤ d) (hB1 : cs' ≤ B.1) (hB2 : sl' ≤ B.2) (h : cO ω a ci (kI R k) = some r)
    (K : ∀ x ω' n', k x ω' n' = some r → GR Θ y cc nL ret d (B.1 - cs', B.2 - sl') (pc + 3) lv (.int x :: st) ω' n' r) : GR Θ y cc nL ret d B pc lv st0 ω n r := by
  obtain ⟨fs, h1, h2⟩ := cO_inv h
  exact g_kI L hd hc h1 hm hna hst hcat hdep hB1 hB2 h2 K
theorem g_cV {index na ci a d' cs' sl' nL' N : Nat} {C : String} {T : u_T} {y' : MethodName} {cc' : ByteArray} {ret' : Option FieldType} {As st0 : List Value} {R : RO} {k : OW → Nat → RO} (L : g_Mv y.cls index C y' cc' nL' ret' na) (hd : decode cc pc = .ok (.invokevirtual index, 3)) (hc : vwCl[ci]? = some (C, T, N))
    (hm : Ok Θ d' cs' sl' y' cc' nL' ret' (.ref a :: As) ω n R) (hna : As.length = na) (hst : st0 = As.reverse ++ .ref a :: st) (hcat : (st.map fun v => v.category).sum ≤ 8) (hdep : d' + 1 ≤ d) (hB1 : cs' ≤ B.1) (hB2 : sl' ≤ B.2) (h : cO ω a ci (kV R k) = some r)
    (K : ∀ ω' n', k ω' n' = some r → GR Θ y cc nL ret d (B.1 - cs', B.2 - sl') (pc + 3) lv st ω' n' r) : GR Θ y cc nL ret d B pc lv st0 ω n r := by
  obtain ⟨fs, h1, h2⟩ := cO_inv h
  exact g_kV L hd hc h1 hm hna hst hcat hdep hB1 hB2 h2 K
theorem g_cA {index na ci a d' cs' sl' nL' N : Nat} {C : String} {T : u_T} {y' : MethodName} {cc' : ByteArray} {ret' : Option FieldType} {As st0 : List Value} {R : RO} {k : Nat → OW → Nat → RO} (L : g_Mv y.cls index C y' cc' nL' ret' na) (hd : decode cc pc = .ok (.invokevirtual index, 3)) (hc : vwCl[ci]? = some (C, T, N))
    (hm : Ok Θ d' cs' sl' y' cc' nL' ret' (.ref a :: As) ω n R) (hna : As.length = na) (hst : st0 = As.reverse ++ .ref a :: st) (hcat : (st.map fun v => v.category).sum ≤ 8) (hdep : d' + 1 ≤ d) (hB1 : cs' ≤ B.1) (hB2 : sl' ≤ B.2) (h : cO ω a ci (kA R k) = some r)
    (K : ∀ x ω' n', k x ω' n' = some r → GR Θ y cc nL ret d (B.1 - cs', B.2 - sl') (pc + 3) lv (.ref x :: st) ω' n' r) : GR Θ y cc nL ret d B pc lv st0 ω n r := by
  obtain ⟨fs, h1, h2⟩ := cO_inv h
  exact g_kA L hd hc h1 hm hna hst hcat hdep hB1 hB2 h2 K
theorem g_cN {index na ci a d' cs' sl' nL' N : Nat} {C : String} {T : u_T} {y' : MethodName} {cc' : ByteArray} {ret' : Option FieldType} {As st0 : List Value} {R : RO} {k : Nat → OW → Nat → RO} {k0 : OW → Nat → RO} (L : g_Mv y.cls index C y' cc' nL' ret' na) (hd : decode cc pc = .ok (.invokevirtual index, 3)) (hc : vwCl[ci]? = some (C, T, N))
    (hm : Ok Θ d' cs' sl' y' cc' nL' ret' (.ref a :: As) ω n R) (hna : As.length = na) (hst : st0 = As.reverse ++ .ref a :: st) (hcat : (st.map fun v => v.category).sum ≤ 8) (hdep : d' + 1 ≤ d) (hB1 : cs' ≤ B.1) (hB2 : sl' ≤ B.2) (h : cO ω a ci (kN R k k0) = some r)
    (K : ∀ x ω' n', k x ω' n' = some r → GR Θ y cc nL ret d (B.1 - cs', B.2 - sl') (pc + 3) lv (.ref x :: st) ω' n' r) (K0 : ∀ ω' n', k0 ω' n' = some r → GR Θ y cc nL ret d (B.1 - cs', B.2 - sl') (pc + 3) lv (.null :: st) ω' n' r) : GR Θ y cc nL ret d B pc lv st0 ω n r := by
  obtain ⟨fs, h1, h2⟩ := cO_inv h
  exact g_kN L hd hc h1 hm hna hst hcat hdep hB1 hB2 h2 K K0
end GE
