def bz (x : Int32) (k : RO) : RO := if x = 0 ∨ x = 1 then k else none
def nz (x : Int32) (k : RO) : RO := if x = 0 then none else k
def nzl (x : Int64) (k : RO) : RO := if x = 0 then none else k
theorem bz_inv {x : Int32} {k : RO} {r : Out} (h : bz x k = some r) : narrow .boolean (.int x) = .int x ∧ k = some r := by
  unfold bz at h
  split at h
  · rename_i hc
    rcases hc with rfl | rfl
    · exact ⟨rfl, h⟩
    · exact ⟨rfl, h⟩
  · cases h
theorem bz_invF {x : Int32} {k : RO} {r : Out} (h : bz x k = some r) : narrow .boolean (.int x) = .int x ∧ fits .boolean (.int x) = true ∧ k = some r := by
  unfold bz at h
  split at h
  · rename_i hc
    rcases hc with rfl | rfl
    · exact ⟨rfl, rfl, h⟩
    · exact ⟨rfl, rfl, h⟩
  · cases h
theorem nz_inv {x : Int32} {k : RO} {r : Out} (h : nz x k = some r) : ¬ x = 0 ∧ k = some r := by
  unfold nz at h
  split at h
  · cases h
  · exact ⟨by assumption, h⟩
theorem nzl_inv {x : Int64} {k : RO} {r : Out} (h : nzl x k = some r) : ¬ x = 0 ∧ k = some r := by
  unfold nzl at h
  split at h
  · cases h
  · exact ⟨by assumption, h⟩
theorem ne_toInt {x k : Int32} (h : ¬ x = k) {z : Int} (hz : k.toInt = z) : x.toInt ≠ z := fun e => h (Int32.toInt_inj.mp (e.trans hz.symm))
theorem g_T_or {ws : List Cond} (h : ws.all (fun w => (decide (w ∈ lw_tbl) && goodWord w) || decide (w ∈ g_N)) = true) : ∀ w ∈ ws, w ∈ g_T ∨ w ∈ g_N := by
  intro w hw
  have h1 := List.all_eq_true.mp h w hw
  simp only [Bool.or_eq_true, Bool.and_eq_true, decide_eq_true_eq] at h1
  rcases h1 with h1 | h1
  · exact Or.inl (g_T_in h1.1 h1.2)
  · exact Or.inr h1
theorem vx_ots {ws : List Cond} (h : ws.all vx_ot = true) : ∀ w ∈ ws, vx_ot w = true := fun w hw => List.all_eq_true.mp h w hw
theorem th_X10_125_129 : g_Th RX10 125 129 "java/lang/IllegalArgumentException" := ⟨by decide +kernel, wd_877, wd_128, g_T_or (by decide +kernel), vx_ots (by decide +kernel)⟩
theorem th_X10_135_139 : g_Th RX10 135 139 "java/lang/UnsupportedOperationException" := ⟨by decide +kernel, wd_947, wd_129, g_T_or (by decide +kernel), vx_ots (by decide +kernel)⟩
theorem th_X10_262_266 : g_Th RX10 262 266 "java/lang/IllegalStateException" := ⟨by decide +kernel, wd_1133, wd_138, g_T_or (by decide +kernel), vx_ots (by decide +kernel)⟩
theorem th_X10_416_420 : g_Th RX10 416 420 "java/lang/IndexOutOfBoundsException" := ⟨by decide +kernel, wd_1053, wd_136, g_T_or (by decide +kernel), vx_ots (by decide +kernel)⟩
section GF
variable {Θ : GP} {y : MethodName} {cc : ByteArray} {nL : Nat} {ret : Option FieldType} {d : Nat} {tab : List ExceptionTableEntry} {Qv : Option Value → OW → Nat → Prop} {Qx : String → OW → Nat → Prop} {B : Nat × Nat} {pc : Nat} {lv : List (Nat × Value)} {st : List Value} {ω : OW} {n : Nat}
theorem g_lcmp {x z : Int64} (hd : decode cc pc = .ok (.lcmp, 1)) (k : G Θ y cc nL ret d tab Qv Qx B (pc + 1) lv (.int (lg_cmp x z) :: st) ω n) : G Θ y cc nL ret d tab Qv Qx B pc lv (.long z :: .long x :: st) ω n := G.pure (fun _ _ _ _ _ _ _ _ _ _ _ _ _ _ _ hx hb hl kk => W.lcmp hx hb hd (kk _ hl)) k
end GF
def nw (ω : OW) (n : Nat) (x : va_E) (k : Nat → OW → Nat → RO) : RO := k n (g_upd ω n x) (n + 1)
def kC (r : RO) (k : OW → Nat → RO) : RO := match r with
  | some (.inl (none, ω, n)) => k ω n
  | _ => none
theorem kC_inv {R : RO} {k : OW → Nat → RO} {r : Out} (h : kC R k = some r) : ∃ ω n, R = some (.inl (none, ω, n)) ∧ k ω n = some r := by
  unfold kC at h
  split at h
  · exact ⟨_, _, rfl, h⟩
  · cases h
def sAr (ω : OW) (cA : ClassId) (a : Nat) (i : Int32) (v : Nat) (k : OW → RO) : RO := match ω a, ω v with
  | some (.inl (c, len, .inr (.inr (.inr (.inr f))))), some (.inr (0, _)) => if c = cA ∧ ¬ (i < 0 ∨ len ≤ i.toNatClampNeg) then k (g_upd ω a (.inl (cA, len, .inr (.inr (.inr (.inr (va_up f i.toNatClampNeg (some v)))))))) else none
  | _, _ => none
theorem sAr_inv {ω : OW} {cA : ClassId} {a v : Nat} {i : Int32} {k : OW → RO} {r : Out} (h : sAr ω cA a i v k = some r) : ∃ len f vs, ω a = some (.inl (cA, len, .inr (.inr (.inr (.inr f))))) ∧ ω v = some (.inr (0, vs)) ∧ vp_in i len ∧ k (g_upd ω a (.inl (cA, len, .inr (.inr (.inr (.inr (va_up f i.toNatClampNeg (some v)))))))) = some r := by
  unfold sAr at h
  split at h
  · split at h
    · rename_i hc; obtain ⟨rfl, hj⟩ := hc; exact ⟨_, _, _, by assumption, by assumption, hj, h⟩
    · cases h
  · cases h
section GH
variable {Θ : GP} {y : MethodName} {cc : ByteArray} {nL : Nat} {ret : Option FieldType} {d : Nat} {B : Nat × Nat} {pc : Nat} {lv : List (Nat × Value)} {st : List Value} {ω : OW} {n : Nat} {r : Out}
theorem g_nwO {index ci N : Nat} {C : String} {T : u_T} {ty0 : Nat → FieldType} {fs : List Value} {k : Nat → OW → Nat → RO} (hcl : g_Cl ci C T N ty0) (hk : Cond.classLink y.cls index C ∈ g_T) (hin : Cond.instantiable C N ∈ g_T) (hini : Cond.initialized C ∈ g_T) (hd : decode cc pc = .ok (.new index, 3)) (hfs : ∀ j, j < N → defaultValue (ty0 j) = vp_V fs j) (hB1 : 1 ≤ B.1) (hB2 : N ≤ B.2) (h : nw ω n (.inr (ci, fs)) k = some r)
    (K : ∀ a ω' n', k a ω' n' = some r → GR Θ y cc nL ret d (B.1 - 1, B.2 - N) (pc + 3) lv (.ref a :: st) ω' n' r) : GR Θ y cc nL ret d B pc lv st ω n r := g_new hcl hk hin hini hd hfs hB1 hB2 (K _ _ _ h)
theorem g_nwA {t0 : Nat} {cA : ClassId} {atype : ArrayType} {ty : FieldType} {N' : Nat} {i : Int32} {a0 : vp_A} {k : Nat → OW → Nat → RO} (hd : decode cc pc = .ok (.newarray atype, 2)) (hty : newarray.typeOf atype = ty) (hw : Cond.arrayClass ty ∈ g_T) (ht : ([(gI Θ, .int), (gB Θ, .byte), (gZ Θ, .boolean), (gJ Θ, .long), (gC Θ, .object "GhostAssize$Court")] : List (ClassId × FieldType))[t0]? = some (cA, ty)) (hra : ∀ s : State, va_RA s cA ty → s.vm.findClass ("[" ++ ty.toString) = some cA)
    (ha : ∀ cA : ClassId, vp_cell cA a0 = arrV cA N' (fun _ => defaultValue ty)) (hn : ¬ i < 0) (hN : i.toNatClampNeg = N') (hbytes : N' * componentBytes ty ≤ 536870912) (hB1 : 1 ≤ B.1) (hB2 : N' ≤ B.2) (h : nw ω n (.inl (cA, a0)) k = some r)
    (K : ∀ a ω' n', k a ω' n' = some r → GR Θ y cc nL ret d (B.1 - 1, B.2 - N') (pc + 2) lv (.ref a :: st) ω' n' r) : GR Θ y cc nL ret d B pc lv (.int i :: st) ω n r := g_newarr hd hty hw ht hra ha hn hN hbytes hB1 hB2 (K _ _ _ h)
theorem g_nwQ {index N' : Nat} {i : Int32} {k : Nat → OW → Nat → RO} (hk : Cond.classLink y.cls index "GhostAssize$Court" ∈ g_T) (hd : decode cc pc = .ok (.anewarray index, 3)) (hn : ¬ i < 0) (hN : i.toNatClampNeg = N') (hbytes : N' * 4 ≤ 536870912) (hB1 : 1 ≤ B.1) (hB2 : N' ≤ B.2) (h : nw ω n (.inl (gC Θ, N', .inr (.inr (.inr (.inr (fun _ => none)))))) k = some r)
    (K : ∀ a ω' n', k a ω' n' = some r → GR Θ y cc nL ret d (B.1 - 1, B.2 - N') (pc + 3) lv (.ref a :: st) ω' n' r) : GR Θ y cc nL ret d B pc lv (.int i :: st) ω n r := g_anew hk hd hn hN hbytes hB1 hB2 (K _ _ _ h)
theorem g_sAa {a v : Nat} {i : Int32} {k : OW → RO} (hd : decode cc pc = .ok (.aastore, 1)) (h : sAr ω (gC Θ) a i v k = some r) (K : ∀ ω', k ω' = some r → GR Θ y cc nL ret d B (pc + 1) lv st ω' n r) : GR Θ y cc nL ret d B pc lv (.ref v :: .int i :: .ref a :: st) ω n r := by
  obtain ⟨len, f, vs, h1, h2, h3, h4⟩ := sAr_inv h
  exact g_aast hd h1 h2 h3 (K _ h4)
theorem g_cC {index na a d' cs' sl' nL' : Nat} {y' : MethodName} {cc' : ByteArray} {As st0 : List Value} {R : RO} {k : OW → Nat → RO} (L : g_Mi y.cls index y' cc' nL' na) (hd : decode cc pc = .ok (.invokespecial index, 3)) (hm : Ok Θ d' cs' sl' y' cc' nL' none (.ref a :: As) ω n R)
    (hna : As.length = na) (hst : st0 = As.reverse ++ .ref a :: st) (hcat : (st.map fun v => v.category).sum ≤ 8) (hdep : d' + 1 ≤ d) (hB1 : cs' ≤ B.1) (hB2 : sl' ≤ B.2) (h : kC R k = some r)
    (K : ∀ ω' n', k ω' n' = some r → GR Θ y cc nL ret d (B.1 - cs', B.2 - sl') (pc + 3) lv st ω' n' r) : GR Θ y cc nL ret d B pc lv st0 ω n r := by
  obtain ⟨ω1, n1, e1, e2⟩ := kC_inv h
  refine g_callI L hd hna hst hcat ((hm _ e1).post (fun _ _ _ h => h) (fun E ω' n' h => by cases h)) hdep hB1 hB2 ?_
  intro v ω' n' hv
  cases hv
  exact K _ _ e2
end GH
