section G6
variable {Θ : GP} {y : MethodName} {cc : ByteArray} {nL : Nat} {ret : Option FieldType} {d : Nat} {tab : List ExceptionTableEntry} {Qv : Option Value → OW → Nat → Prop} {Qx : String → OW → Nat → Prop} {B : Nat × Nat} {pc : Nat} {lv : List (Nat × Value)} {st : List Value} {ω : OW} {n : Nat}
/-- a step that makes one cell of k slots -/
theorem G.make {pc' k : Nat} {st' : List Value} {x : va_E} (hB1 : 1 ≤ B.1) (hB2 : k ≤ B.2) (h : ∀ (p : Program) (e : Env) (R : Room) (s : State) (m : MethodId) (args : Array Value) (below : List Frame) (meth : Method) (c : Code) (H : Heap) (locs : List Loc) (cells slots : Nat) (Q : State → Prop) (ls : Array Slot), g_C Θ y cc nL ret d tab p R s m args meth c → H.size = n → lv_has ls nL lv → cells + 1 ≤ R.cells → slots + k ≤ R.slots →
      (∀ (H1 : Heap), va_at (gD Θ) vwCl (n, x) H1 → H1.size = n + 1 → (∀ q : Nat, q < n → H1[q]? = H[q]?) → W p (gl Θ) e R s m args below meth c H1 locs (cells + 1) (slots + k) Q (F0 m pc' ls st')) → W p (gl Θ) e R s m args below meth c H locs cells slots Q (F0 m pc ls st))
    (K : G Θ y cc nL ret d tab Qv Qx (B.1 - 1, B.2 - k) pc' lv st' (g_upd ω n x) (n + 1)) : G Θ y cc nL ret d tab Qv Qx B pc lv st ω n := by
  intro p e R s m args below meth c H locs cells slots mc ms ls hC hS hl
  obtain ⟨q1, q2, q3, q4, q5, q6, q7⟩ := hS
  refine h p e R s m args below meth c H locs cells slots _ ls hC q6 hl (by omega) (by omega) (fun H1 e1 z oq => ?_)
  have hno : ω n = none := by rw [← q6]; exact q5.none
  obtain ⟨ws, hL, hP, hD⟩ := q5
  have hk : ∀ (k : Nat) (x : Nat × va_E), ws[k]? = some x → H1[x.1]? = H[x.1]? := fun k x hx => oq x.1 (by rw [← q6]; exact (hP k x hx).lt)
  have hb : gb Θ ≤ s.heap.size := hC.sf.2.2.2.2.2.1
  have hA : gA Θ n := by
    show gb Θ ≤ n
    have := q7.1
    omega
  subst q6
  refine K p e R s m args below meth c H1 locs (cells + 1) (slots + k) mc ms ls hC ⟨?_, ?_, q3, q4, ⟨ws ++ [(H.size, x)], hL.push hno x, (hP.kept hk).app (fun j w hw => ?_), hD.push hP rfl hA⟩, z, ?_⟩ hl
  · show cells + 1 + (B.1 - 1) ≤ mc
    omega
  · show slots + k + (B.2 - k) ≤ ms
    omega
  · have hz : j < 1 := (List.getElem?_eq_some_iff.mp hw).1
    rw [show j = 0 by omega] at hw
    cases hw
    exact e1
  · exact ⟨Nat.le_trans q7.1 (by omega), fun q g1 g2 => (oq q (Nat.lt_of_lt_of_le g1 q7.1)).trans (q7.2.1 q g1 g2), q7.2.2⟩
theorem g_new {index ci N : Nat} {C : String} {T : u_T} {ty0 : Nat → FieldType} {fs : List Value} (hcl : g_Cl ci C T N ty0) (hk : Cond.classLink y.cls index C ∈ g_T) (hin : Cond.instantiable C N ∈ g_T) (hini : Cond.initialized C ∈ g_T) (hd : decode cc pc = .ok (.new index, 3)) (hfs : ∀ j, j < N → defaultValue (ty0 j) = vp_V fs j) (hB1 : 1 ≤ B.1) (hB2 : N ≤ B.2)
    (K : G Θ y cc nL ret d tab Qv Qx (B.1 - 1, B.2 - N) (pc + 3) lv (.ref n :: st) (g_upd ω n (.inr (ci, fs))) (n + 1)) : G Θ y cc nL ret d tab Qv Qx B pc lv st ω n := by
  obtain ⟨c1, c2, c3, c4⟩ := hcl
  refine G.make hB1 hB2 (fun p e R s m args below meth c H locs cells slots Q ls hC0 hz hlv hc hs kk => ?_) K
  have hts := hC0.2.2.2.2.2.1
  have hKn := hC0.sf.1.1 ci _ c1
  refine W.newcK hC0.1 hC0.2.1 hC0.2.2.2.2.1 (hts _ hk) (hts _ hin) (hts _ hini) rfl hd hc hs hKn.2.1 hz fun H1 kC hkC e1 z1 o1 => ?_
  exact kk H1 ⟨_, c1, (u_born ty0 hts c2 hKn hkC e1 c3).to hfs⟩ z1 o1
theorem g_newarr {t0 : Nat} {cA : ClassId} {atype : ArrayType} {ty : FieldType} {N' : Nat} {k : Int32} {a0 : vp_A} (hd : decode cc pc = .ok (.newarray atype, 2)) (hty : newarray.typeOf atype = ty) (hw : Cond.arrayClass ty ∈ g_T) (ht : ([(gI Θ, .int), (gB Θ, .byte), (gZ Θ, .boolean), (gJ Θ, .long), (gC Θ, .object "GhostAssize$Court")] : List (ClassId × FieldType))[t0]? = some (cA, ty)) (hra : ∀ s : State, va_RA s cA ty → s.vm.findClass ("[" ++ ty.toString) = some cA)
    (ha : ∀ cA : ClassId, vp_cell cA a0 = arrV cA N' (fun _ => defaultValue ty)) (hn : ¬ k < 0) (hN : k.toNatClampNeg = N') (hbytes : N' * componentBytes ty ≤ 536870912) (hB1 : 1 ≤ B.1) (hB2 : N' ≤ B.2)
    (K : G Θ y cc nL ret d tab Qv Qx (B.1 - 1, B.2 - N') (pc + 2) lv (.ref n :: st) (g_upd ω n (.inl (cA, a0))) (n + 1)) : G Θ y cc nL ret d tab Qv Qx B pc lv (.int k :: st) ω n := by
  subst hty
  refine G.make hB1 hB2 (fun p e R s m args below meth c H locs cells slots Q ls hC0 hz hlv hc hs kk => ?_) K
  have hts := hC0.2.2.2.2.2.1
  refine va_newaK hC0.1 hC0.2.1 (hts _ hw) rfl hd rfl hn hN hbytes hc hs hz fun H1 cA' e1 z1 o1 hAr hNm => ?_
  have h9 := hra s ((hC0.sf.1.2 t0 _ (g_ty hC0 ht)).2)
  have h8 : cA' = cA := Option.some.inj (hNm.symm.trans h9)
  subst h8
  refine kk H1 ?_ z1 o1
  show H1[n]? = some (vp_cell _ _)
  rw [ha]
  exact e1
theorem g_objInit {index a : Nat} (hl : Cond.methodLink y.cls index Lib.objectInit ∈ g_T) (hi : Cond.instanceMethod Lib.objectInit ∈ g_T) (hc : Cond.code Lib.objectInit ⟨#[0xb1]⟩ 1 none ∈ g_T) (hd : decode cc pc = .ok (.invokespecial index, 3)) (hdep : 1 ≤ d) (hcat : (st.map fun v => v.category).sum ≤ 8)
    (K : G Θ y cc nL ret d tab Qv Qx B (pc + 3) lv st ω n) : G Θ y cc nL ret d tab Qv Qx B pc lv (.ref a :: st) ω n := by
  refine G.pureC (fun p e R s m args below meth c H locs cells slots Q ls hC0 hS hH hlv kk => ?_) K
  have hts := hC0.2.2.2.2.2.1
  have hfr := hC0.2.2.2.2.2.2.2.2.1
  have hlo := hC0.2.2.2.2.2.2.2.2.2.1
  exact W.objInit hC0.1 hC0.2.1 hC0.2.2.2.2.1 (hts _ hl) (hts _ hi) (hts _ hc) rfl (by rw [hC0.2.2.2.1]; exact hlv.1) rfl hd (by omega) (by show 2 * 0 + _ + 12 ≤ _; omega) (kk _ hlv)
/-- Math.max, Math.min of ints -/
theorem g_max {index : Nat} {x z : Int32} (hl : Cond.methodLink y.cls index Lib.Math.max.name ∈ g_T) (hs : Cond.static Lib.Math.max.name ∈ g_T) (hini : Cond.initialized "java/lang/Math" ∈ g_T) (hc : Cond.code Lib.Math.max.name Lib.Math.max.code 2 (some .int) ∈ g_T) (hd : decode cc pc = .ok (.invokestatic index, 3)) (hdep : 1 ≤ d) (hcat : (st.map fun v => v.category).sum ≤ 8)
    (K : G Θ y cc nL ret d tab Qv Qx B (pc + 3) lv (.int (if x < z then z else x) :: st) ω n) : G Θ y cc nL ret d tab Qv Qx B pc lv (.int z :: .int x :: st) ω n := by
  intro p e R s m args below meth c H locs cells slots mc ms ls hC hS hlv
  have hts := hC.2.2.2.2.2.1
  have hfr := hC.2.2.2.2.2.2.2.2.1
  have hlo := hC.2.2.2.2.2.2.2.2.2.1
  have h1 := hS.1
  have h2 := hS.2.1
  have h3 := hS.2.2.1
  have h4 := hS.2.2.2.1
  exact va_mmax hC.1 hC.2.1 (by rw [hC.2.2.2.1]; exact hlv.1.symm) hC.2.2.2.2.1 (hts _ hl) (hts _ hs) (hts _ hini) (hts _ hc) (by omega) (by omega) (by omega) (by omega) hd (K p e R s m args below meth c H locs cells slots mc ms ls hC hS hlv)
theorem g_min {index : Nat} {x z : Int32} (hl : Cond.methodLink y.cls index Lib.Math.min.name ∈ g_T) (hs : Cond.static Lib.Math.min.name ∈ g_T) (hini : Cond.initialized "java/lang/Math" ∈ g_T) (hc : Cond.code Lib.Math.min.name Lib.Math.min.code 2 (some .int) ∈ g_T) (hd : decode cc pc = .ok (.invokestatic index, 3)) (hdep : 1 ≤ d) (hcat : (st.map fun v => v.category).sum ≤ 8)
    (K : G Θ y cc nL ret d tab Qv Qx B (pc + 3) lv (.int (if z < x then z else x) :: st) ω n) : G Θ y cc nL ret d tab Qv Qx B pc lv (.int z :: .int x :: st) ω n := by
  intro p e R s m args below meth c H locs cells slots mc ms ls hC hS hlv
  have hts := hC.2.2.2.2.2.1
  have hfr := hC.2.2.2.2.2.2.2.2.1
  have hlo := hC.2.2.2.2.2.2.2.2.2.1
  have h1 := hS.1
  have h2 := hS.2.1
  have h3 := hS.2.2.1
  have h4 := hS.2.2.2.1
  exact va_mmin hC.1 hC.2.1 (by rw [hC.2.2.2.1]; exact hlv.1.symm) hC.2.2.2.2.1 (hts _ hl) (hts _ hs) (hts _ hini) (hts _ hc) (by omega) (by omega) (by omega) (by omega) hd (K p e R s m args below meth c H locs cells slots mc ms ls hC hS hlv)
end G6
