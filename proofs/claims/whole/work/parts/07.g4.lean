section G5
variable {Θ : GP} {y : MethodName} {cc : ByteArray} {nL : Nat} {ret : Option FieldType} {d : Nat} {tab : List ExceptionTableEntry} {Qv : Option Value → OW → Nat → Prop} {Qx : String → OW → Nat → Prop} {B : Nat × Nat} {pc : Nat} {lv : List (Nat × Value)} {st : List Value} {ω : OW} {n : Nat}
theorem g_C.sf {p : Program} {R : Room} {s : State} {m : MethodId} {args : Array Value} {meth : Method} {c : Code} (h : g_C Θ y cc nL ret d tab p R s m args meth c) : g_SF Θ s := h.2.2.2.2.2.2.2.2.2.2.1
theorem g_ty {p : Program} {R : Room} {s : State} {m : MethodId} {args : Array Value} {meth : Method} {c : Code} (h : g_C Θ y cc nL ret d tab p R s m args meth c) {k : Nat} {q : ClassId × FieldType} (hq : ([(gI Θ, .int), (gB Θ, .byte), (gZ Θ, .boolean), (gJ Θ, .long), (gC Θ, .object "GhostAssize$Court")] : List (ClassId × FieldType))[k]? = some q) : (gty Θ)[k]? = some q := by
  have h1 : gOK Θ := h.sf.2.2.2.2.2.2.2.2.1
  unfold gOK at h1
  rw [h1]
  exact hq
theorem g_iald {a len : Nat} {f : Nat → Int32} {i : Int32} (hd : decode cc pc = .ok (.iaload, 1)) (ha : ω a = some (.inl (gI Θ, len, .inl f))) (hi : vp_in i len)
    (K : G Θ y cc nL ret d tab Qv Qx B (pc + 1) lv (.int (f i.toNatClampNeg) :: st) ω n) : G Θ y cc nL ret d tab Qv Qx B pc lv (.int i :: .ref a :: st) ω n := by
  refine G.pureC (fun p e R s m args below meth c H locs cells slots Q ls hC0 hS hH hlv kk => ?_) K
  obtain ⟨ws, j, hj, -, hP, -⟩ := hH.get ha
  exact va_iald hC0.1 hC0.2.1 hC0.sf.1 hP j 0 hj (g_ty hC0 rfl) hi hd (kk _ hlv)
theorem g_bald {a len : Nat} {f : Nat → Int32} {i : Int32} (hd : decode cc pc = .ok (.baload, 1)) (ha : ω a = some (.inl (gB Θ, len, .inl f))) (hi : vp_in i len)
    (K : G Θ y cc nL ret d tab Qv Qx B (pc + 1) lv (.int (f i.toNatClampNeg) :: st) ω n) : G Θ y cc nL ret d tab Qv Qx B pc lv (.int i :: .ref a :: st) ω n := by
  refine G.pureC (fun p e R s m args below meth c H locs cells slots Q ls hC0 hS hH hlv kk => ?_) K
  obtain ⟨ws, j, hj, -, hP, -⟩ := hH.get ha
  exact va_bald hC0.1 hC0.2.1 hC0.sf.1 hP j 1 hj (g_ty hC0 rfl) hi hd (kk _ hlv)
theorem g_zald {a len : Nat} {f : Nat → Int32} {i : Int32} (hd : decode cc pc = .ok (.baload, 1)) (ha : ω a = some (.inl (gZ Θ, len, .inl f))) (hi : vp_in i len)
    (K : G Θ y cc nL ret d tab Qv Qx B (pc + 1) lv (.int (f i.toNatClampNeg) :: st) ω n) : G Θ y cc nL ret d tab Qv Qx B pc lv (.int i :: .ref a :: st) ω n := by
  refine G.pureC (fun p e R s m args below meth c H locs cells slots Q ls hC0 hS hH hlv kk => ?_) K
  obtain ⟨ws, j, hj, -, hP, -⟩ := hH.get ha
  exact va_zald hC0.1 hC0.2.1 hC0.sf.1 hP j 2 hj (g_ty hC0 rfl) hi hd (kk _ hlv)
theorem g_lald {a len : Nat} {f : Nat → Int64} {i : Int32} (hd : decode cc pc = .ok (.laload, 1)) (ha : ω a = some (.inl (gJ Θ, len, .inr (.inl f)))) (hi : vp_in i len)
    (K : G Θ y cc nL ret d tab Qv Qx B (pc + 1) lv (.long (f i.toNatClampNeg) :: st) ω n) : G Θ y cc nL ret d tab Qv Qx B pc lv (.int i :: .ref a :: st) ω n := by
  refine G.pureC (fun p e R s m args below meth c H locs cells slots Q ls hC0 hS hH hlv kk => ?_) K
  obtain ⟨ws, j, hj, -, hP, -⟩ := hH.get ha
  exact va_lald hC0.1 hC0.2.1 hC0.sf.1 hP j 3 hj (g_ty hC0 rfl) hi hd (kk _ hlv)
theorem g_alen {a k : Nat} {ty : FieldType} {cA : ClassId} {x : vp_A} {v : Int32} (hd : decode cc pc = .ok (.arraylength, 1)) (ha : ω a = some (.inl (cA, x))) (hk : ([(gI Θ, .int), (gB Θ, .byte), (gZ Θ, .boolean), (gJ Θ, .long), (gC Θ, .object "GhostAssize$Court")] : List (ClassId × FieldType))[k]? = some (cA, ty)) (hv : Int32.ofNat x.1 = v)
    (K : G Θ y cc nL ret d tab Qv Qx B (pc + 1) lv (.int v :: st) ω n) : G Θ y cc nL ret d tab Qv Qx B pc lv (.ref a :: st) ω n := by
  refine G.pureC (fun p e R s m args below meth c H locs cells slots Q ls hC0 hS hH hlv kk => ?_) K
  obtain ⟨ws, j, hj, -, hP, -⟩ := hH.get ha
  exact va_alen hC0.1 hC0.2.1 hC0.sf.1 hP j k hj (g_ty hC0 hk) hv hd (kk _ hlv)
theorem g_aald {a len : Nat} {f : Nat → Option Nat} {i : Int32} (hd : decode cc pc = .ok (.aaload, 1)) (ha : ω a = some (.inl (gC Θ, len, .inr (.inr (.inr (.inr f)))))) (hi : vp_in i len)
    (K : G Θ y cc nL ret d tab Qv Qx B (pc + 1) lv (va_rf (f i.toNatClampNeg) :: st) ω n) : G Θ y cc nL ret d tab Qv Qx B pc lv (.int i :: .ref a :: st) ω n := by
  refine G.pureC (fun p e R s m args below meth c H locs cells slots Q ls hC0 hS hH hlv kk => ?_) K
  obtain ⟨ws, j, hj, -, hP, -⟩ := hH.get ha
  exact va_aldq hC0.1 hC0.2.1 hC0.sf.1 hP j 4 hj (g_ty hC0 rfl) hi hd (kk _ hlv)
theorem g_iast {a len : Nat} {f : Nat → Int32} {i : Int32} {x : Int32} (hd : decode cc pc = .ok (.iastore, 1)) (ha : ω a = some (.inl (gI Θ, len, .inl f))) (hi : vp_in i len)
    (K : G Θ y cc nL ret d tab Qv Qx B (pc + 1) lv st (g_upd ω a (.inl (gI Θ, len, .inl (upd f i.toNatClampNeg (x))))) n) : G Θ y cc nL ret d tab Qv Qx B pc lv (.int x :: .int i :: .ref a :: st) ω n := by
  refine G.write ha (fun p e R s m args below meth c H locs cells slots Q ls hC0 hat hlv kk => ?_) K
  refine W.iast hC0.1 hC0.2.1 hat ((hC0.sf.1.2 0 _ (g_ty hC0 rfl)).1 len (fun j => .int (f j))) (fun q => by cases q) (by show ¬ (i < 0 ∨ (arrV _ _ _).slots.size ≤ _); rw [arrV_size]; exact hi) rfl rfl hd fun H1 e z oq => ?_
  refine kk H1 _ (fun q hq => by rw [List.mem_singleton.mp hq]) ?_ z oq
  show H1[a]? = some (vp_cell _ _)
  rw [e]
  rw [vp_cell_i, vp_cell_i, arrV_store]
  congr 2
  funext q
  by_cases hq : q = i.toNatClampNeg
  · subst hq
    simp [updV, upd, vp_nar]
    try rfl
  · simp [updV, upd, hq]
theorem g_bast {a len : Nat} {f : Nat → Int32} {i : Int32} {x : Int32} (hd : decode cc pc = .ok (.bastore, 1)) (ha : ω a = some (.inl (gB Θ, len, .inl f))) (hi : vp_in i len)
    (K : G Θ y cc nL ret d tab Qv Qx B (pc + 1) lv st (g_upd ω a (.inl (gB Θ, len, .inl (upd f i.toNatClampNeg (vp_nar .byte x))))) n) : G Θ y cc nL ret d tab Qv Qx B pc lv (.int x :: .int i :: .ref a :: st) ω n := by
  refine G.write ha (fun p e R s m args below meth c H locs cells slots Q ls hC0 hat hlv kk => ?_) K
  refine W.bast hC0.1 hC0.2.1 hat ((hC0.sf.1.2 1 _ (g_ty hC0 rfl)).1 len (fun j => .int (f j))) (fun q => by cases q) (by show ¬ (i < 0 ∨ (arrV _ _ _).slots.size ≤ _); rw [arrV_size]; exact hi) rfl rfl hd fun H1 e z oq => ?_
  refine kk H1 _ (fun q hq => by rw [List.mem_singleton.mp hq]) ?_ z oq
  show H1[a]? = some (vp_cell _ _)
  rw [e]
  rw [vp_cell_i, vp_cell_i, arrV_store]
  congr 2
  funext q
  by_cases hq : q = i.toNatClampNeg
  · subst hq
    simp [updV, upd, vp_nar]
    try rfl
  · simp [updV, upd, hq]
theorem g_zast {a len : Nat} {f : Nat → Int32} {i : Int32} {x : Int32} (hd : decode cc pc = .ok (.bastore, 1)) (ha : ω a = some (.inl (gZ Θ, len, .inl f))) (hi : vp_in i len)
    (K : G Θ y cc nL ret d tab Qv Qx B (pc + 1) lv st (g_upd ω a (.inl (gZ Θ, len, .inl (upd f i.toNatClampNeg (vp_nar .boolean x))))) n) : G Θ y cc nL ret d tab Qv Qx B pc lv (.int x :: .int i :: .ref a :: st) ω n := by
  refine G.write ha (fun p e R s m args below meth c H locs cells slots Q ls hC0 hat hlv kk => ?_) K
  refine W.zast hC0.1 hC0.2.1 hat ((hC0.sf.1.2 2 _ (g_ty hC0 rfl)).1 len (fun j => .int (f j))) (fun q => by cases q) (by show ¬ (i < 0 ∨ (arrV _ _ _).slots.size ≤ _); rw [arrV_size]; exact hi) rfl rfl hd fun H1 e z oq => ?_
  refine kk H1 _ (fun q hq => by rw [List.mem_singleton.mp hq]) ?_ z oq
  show H1[a]? = some (vp_cell _ _)
  rw [e]
  rw [vp_cell_i, vp_cell_i, arrV_store]
  congr 2
  funext q
  by_cases hq : q = i.toNatClampNeg
  · subst hq
    simp [updV, upd, vp_nar]
    try rfl
  · simp [updV, upd, hq]
theorem g_last {a len : Nat} {f : Nat → Int64} {i : Int32} {x : Int64} (hd : decode cc pc = .ok (.lastore, 1)) (ha : ω a = some (.inl (gJ Θ, len, .inr (.inl f)))) (hi : vp_in i len)
    (K : G Θ y cc nL ret d tab Qv Qx B (pc + 1) lv st (g_upd ω a (.inl (gJ Θ, len, .inr (.inl (vp_updL f i.toNatClampNeg (x)))))) n) : G Θ y cc nL ret d tab Qv Qx B pc lv (.long x :: .int i :: .ref a :: st) ω n := by
  refine G.write ha (fun p e R s m args below meth c H locs cells slots Q ls hC0 hat hlv kk => ?_) K
  refine W.last hC0.1 hC0.2.1 hat ((hC0.sf.1.2 3 _ (g_ty hC0 rfl)).1 len (fun j => .long (f j))) (fun q => by cases q) (by show ¬ (i < 0 ∨ (arrV _ _ _).slots.size ≤ _); rw [arrV_size]; exact hi) rfl rfl hd fun H1 e z oq => ?_
  refine kk H1 _ (fun q hq => by rw [List.mem_singleton.mp hq]) ?_ z oq
  show H1[a]? = some (vp_cell _ _)
  rw [e]
  rw [vp_cell_l, vp_cell_l, arrV_store]
  congr 2
  funext q
  by_cases hq : q = i.toNatClampNeg
  · subst hq
    simp [updV, vp_updL, vp_nar]
    try rfl
  · simp [updV, vp_updL, hq]
/-- System.arraycopy of ints -/
theorem g_copyi {index a0 a n0 n1 : Nat} {f g : Nat → Int32} {sp dp k : Int32} (hl : Cond.methodLink y.cls index arraycopyName ∈ g_T) (hn : Cond.native arraycopyName ∈ g_T) (hs : Cond.static arraycopyName ∈ g_T) (hini : Cond.initialized "java/lang/System" ∈ g_T) (hd : decode cc pc = .ok (.invokestatic index, 3))
    (ha0 : ω a0 = some (.inl (gI Θ, n0, .inl f))) (ha : ω a = some (.inl (gI Θ, n1, .inl g))) (h1 : ¬ sp < 0) (h2 : ¬ dp < 0) (h3 : ¬ k < 0) (h4 : sp.toNatClampNeg + k.toNatClampNeg ≤ n0) (h5 : dp.toNatClampNeg + k.toNatClampNeg ≤ n1) (hdep : 1 ≤ d) (hcat : (st.map fun v => v.category).sum ≤ 8)
    (K : G Θ y cc nL ret d tab Qv Qx B (pc + 3) lv st (g_upd ω a (.inl (gI Θ, n1, .inl (va_cpy f g sp.toNatClampNeg dp.toNatClampNeg k.toNatClampNeg)))) n) : G Θ y cc nL ret d tab Qv Qx B pc lv (.int k :: .int dp :: .ref a :: .int sp :: .ref a0 :: st) ω n := by
  intro p e R s m args below meth c H locs cells slots mc ms ls hC hS hlv
  obtain ⟨q1, q2, q3, q4, q5, q6, q7⟩ := hS
  obtain ⟨ws, j0, hj0, hL, hP, hD⟩ := q5.get ha0
  obtain ⟨j, hj⟩ := (hL a _).mp ha
  have hA : gA Θ a := hD.2 j _ hj
  have hts := hC.2.2.2.2.2.1
  have hfr := hC.2.2.2.2.2.2.2.2.1
  have hlo := hC.2.2.2.2.2.2.2.2.2.1
  have hn0 : nativeFrameWords "java/lang/System" "arraycopy" 5 + 11 + 8 ≤ 64 := by decide +kernel
  have nn : ∀ z : Int32, ¬ z < 0 → z.toInt = (z.toNatClampNeg : Int) := by
    intro z hz
    have hz0 : (0 : Int) ≤ z.toInt := by
      have := Int32.not_lt.mp hz
      simpa using Int32.le_iff_toInt_le.mp this
    show z.toInt = ((z.toInt.toNat : Nat) : Int)
    omega
  intro T hT X
  have hc0 : H[a0]? = some (vp_cell (gI Θ) (n0, .inl f)) := hP j0 _ hj0
  have hc1 : H[a]? = some (vp_cell (gI Θ) (n1, .inl g)) := hP j _ hj
  have hty : (gty Θ)[0]? = some (gI Θ, .int) := g_ty hC rfl
  obtain ⟨-, k0, hk0, cm0, hkk0⟩ := (hC.sf.1.2 0 _ hty).1 n0 (fun i => .int (f i))
  obtain ⟨-, k1, hk1, cm1, hkk1⟩ := (hC.sf.1.2 0 _ hty).1 n1 (fun i => .int (g i))
  obtain ⟨vm', X', step⟩ := X.arraycopy hC.1 hC.2.2.2.2.1 (hts _ hl) (hts _ hn) (hts _ hs) (hts _ hini) (src := a0) (dst := a) (cs := vp_cell (gI Θ) (n0, .inl f)) (cd := vp_cell (gI Θ) (n1, .inl g)) (srcPos := sp) (destPos := dp) (n := k) (by rw [hT]; exact hc0) (by rw [hT]; exact hc1)
    (fun _ h => by cases h) (fun _ h => by cases h) (fun h => by cases h) (fun h => by cases h) hk0 hk1 hkk0 hkk1 (by simp [refKind]) h1 h2 h3
    (by rw [nn sp h1, nn k h3]; show ¬ _ > ((arrV (gI Θ) n0 (fun i => .int (f i))).slots.size : Int); rw [arrV_size]; omega)
    (by rw [nn dp h2, nn k h3]; show ¬ _ > ((arrV (gI Θ) n1 (fun i => .int (g i))).slots.size : Int); rw [arrV_size]; omega)
    (fun vm₁ _ i hi => by
      have e : (vp_cell (gI Θ) (n0, .inl f)).slots.getD (sp.toNatClampNeg + i) .null = .int (f (sp.toNatClampNeg + i)) := by
        show (arrV (gI Θ) n0 (fun i => .int (f i))).slots.getD _ _ = _
        rw [Array.getD_eq_getD_getElem?, arrV_read _ _ (by omega)]
        rfl
      refine ⟨?_, ?_⟩
      · rw [e]; rfl
      · rw [e]; exact trivial)
    (g := F0 m pc ls (.int k :: .int dp :: .ref a :: .int sp :: .ref a0 :: st)) rfl (by rw [hC.2.2.2.1]; exact hlv.1) (rest := st) rfl (by rw [hC.2.1]; exact hd) (by omega) (by show 2 * 0 + _ + _ ≤ _; omega)
  have e1 : copied (vp_cell (gI Θ) (n0, .inl f)) (vp_cell (gI Θ) (n1, .inl g)) sp dp k = vp_cell (gI Θ) (n1, .inl (va_cpy f g sp.toNatClampNeg dp.toNatClampNeg k.toNatClampNeg)) := va_copied (fun z => .int z) _ _ f g h4
  rw [e1] at X' step
  have hlt : a < H.size := (Array.getElem?_eq_some_iff.mp hc1).1
  have hheap : ((T.setVm vm').setCell a (vp_cell (gI Θ) (n1, .inl (va_cpy f g sp.toNatClampNeg dp.toNatClampNeg k.toNatClampNeg)))).heap = H.setIfInBounds a (vp_cell (gI Θ) (n1, .inl (va_cpy f g sp.toNatClampNeg dp.toNatClampNeg k.toNatClampNeg))) := by rw [← hT]; rfl
  have oq : ∀ q : Nat, q ≠ a → (H.setIfInBounds a (vp_cell (gI Θ) (n1, .inl (va_cpy f g sp.toNatClampNeg dp.toNatClampNeg k.toNatClampNeg))))[q]? = H[q]? := fun q hq => by simp [Array.getElem?_setIfInBounds, Ne.symm hq]
  obtain ⟨t, a1, b1⟩ := K p e R s m args below meth c _ _ cells slots mc ms ls hC ⟨q1, q2, q3, q4, ⟨_, hL.set hD hj _, hP.set hD hj (show (H.setIfInBounds a _)[a]? = some _ by simp [Array.getElem?_setIfInBounds, hlt]) oq, hD.set hj⟩, by rw [← q6]; simp, ⟨by simp; exact q7.1, fun q g1 g2 => by
      rw [oq q (fun e => g2 (by rw [e]; exact hA))]
      exact q7.2.1 q g1 g2, fun q hq => by
      rcases List.mem_append.mp hq with h | h
      · exact q7.2.2 q h
      · obtain ⟨z, -, hz⟩ := List.mem_map.mp h
        rw [← hz]
        exact hA⟩⟩ hlv _ hheap X'
  exact ⟨t, step t a1, b1⟩
end G5
