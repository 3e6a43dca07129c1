section G9
variable {Θ : GP} {y : MethodName} {cc : ByteArray} {nL : Nat} {ret : Option FieldType} {d : Nat} {tab : List ExceptionTableEntry} {Qv : Option Value → OW → Nat → Prop} {Qx : String → OW → Nat → Prop} {B : Nat × Nat} {pc : Nat} {lv : List (Nat × Value)} {st : List Value} {ω : OW} {n : Nat}
/-- a call whose exceptions are caught here -/
theorem g_callVT {index na ci a d' cs' sl' nL' N : Nat} {C : String} {T : u_T} {y' : MethodName} {cc' : ByteArray} {ret' : Option FieldType} {As st0 fs : List Value} {Qv' : Option Value → OW → Nat → Prop} {Qx' : String → OW → Nat → Prop} (L : g_Mv y.cls index C y' cc' nL' ret' na) (hd : decode cc pc = .ok (.invokevirtual index, 3)) (hc : vwCl[ci]? = some (C, T, N)) (ha : ω a = some (.inr (ci, fs)))
    (hna : As.length = na) (hst : st0 = As.reverse ++ .ref a :: st) (hcat : (st.map fun v => v.category).sum ≤ 8) (hm : Con Θ d' cs' sl' y' cc' nL' ret' (.ref a :: As) ω n Qv' Qx') (hdep : d' + 1 ≤ d) (hB1 : cs' ≤ B.1) (hB2 : sl' ≤ B.2)
    (KX : ∀ E ω' n', Qx' E ω' n' → ∃ (pre : List ExceptionTableEntry) (x : ExceptionTableEntry) (suf : List ExceptionTableEntry) (name : String), tab = pre ++ x :: suf ∧ (∀ z ∈ pre, covers z pc = false ∨ (z.catchType ≠ 0 ∧ ∃ nm : String, Cond.classLink y.cls z.catchType nm ∈ g_T ∧ (E, nm) ∈ g_NC)) ∧ covers x pc = true ∧ x.catchType ≠ 0 ∧ Cond.classLink y.cls x.catchType name ∈ g_T ∧ Cond.castable E name ∈ g_N ∧ ∀ q : Nat, G Θ y cc nL ret d tab Qv Qx (B.1 - cs', B.2 - sl') x.handlerPc lv [.ref q] ω' n')
    (K : ∀ v ω' n', Qv' v ω' n' → G Θ y cc nL ret d tab Qv Qx (B.1 - cs', B.2 - sl') (pc + 3) lv (v.toList ++ st) ω' n') : G Θ y cc nL ret d tab Qv Qx B pc lv st0 ω n := by
  intro p e R s m args below meth c H locs cells slots mc ms ls hC hS hl
  obtain ⟨q1, q2, q3, q4, q5, q6, q7⟩ := hS
  obtain ⟨l1, l2, l3, l4, l5, l6, l7⟩ := L
  obtain ⟨ws, j, hj, -, hP, -⟩ := q5.get ha
  have hts := hC.2.2.2.2.2.1
  have hfr := hC.2.2.2.2.2.2.2.2.1
  have hlo := hC.2.2.2.2.2.2.2.2.2.1
  have hg : GoodIn g_T (wsV y.cls index C y' (.code y' cc' nL' ret' :: g_T)) := by
    intro w hw
    unfold wsV at hw
    rcases List.mem_append.mp hw with h | h
    · simp only [List.mem_cons, List.not_mem_nil, or_false] at h
      rcases h with rfl | rfl | rfl | rfl
      · exact ⟨l3, good_of_word (g_T_good _ l3)⟩
      · exact ⟨l4, good_of_word (g_T_good _ l4)⟩
      · exact ⟨l5, good_of_word (g_T_good _ l5)⟩
      · exact ⟨l6, good_of_word (g_T_good _ l6)⟩
    · exact g_T_self l7 w h
  refine g_run (vx_runV (As := As) (rest := st) ⟨hC.1, hC.2.1, hC.2.2.2.1, hC.2.2.2.2.1, hts⟩ hm (cwV (C := C) na hts hg rfl rfl rfl l1 ⟨by show d' + 1 ≤ R.frames; omega, by show 8 + (nL' + 11) + 64 * d' ≤ R.locals; omega⟩) ⟨?_, va_recv hC.sf.1 hP hc hj, fun U hU hW => ⟨rfl, g_SF.at hC.sf q7 hU hW, by rw [hU]; exact q5, by rw [hU]; exact q6⟩⟩ rfl hna hl.1 hst (lv_room hcat) hd ⟨by omega, by omega⟩) q7 ?_ ?_
  · intro a U g mk hp
    exact ⟨hp.1, hp.2.calling g mk a⟩
  · intro E ce q9 ω' n' H1 locs1 hq hH hz hS1 hce hcv hcl
    obtain ⟨pre, x, suf, name, t1, t2, t3, t4, t5, t6, t7⟩ := KX E ω' n' hq
    refine g_catch (name := name) hC.2.2.2.2.1 pre x suf (by rw [hC.2.2.2.2.2.2.2.1]; exact t1) (fun z hz => ?_) t3 t4 (hts _ t5) (va_Nw.use (g_N_tab _ t6) (hC.sf.2.2.2.2.2.2.1 _ t6)) hce hcv hcl ?_
    · rcases t2 z hz with h | ⟨h1, nm, h2, h3⟩
      · exact Or.inl h
      · exact Or.inr ⟨h1, nm, hts _ h2, hC.sf.2.2.2.2.2.2.2.1 _ h3⟩
    · exact t7 q9 p e R s m args below meth c H1 locs1 (cells + cs') (slots + sl') mc ms ls hC ⟨by show cells + cs' + (B.1 - cs') ≤ mc; omega, by show slots + sl' + (B.2 - sl') ≤ ms; omega, q3, q4, hH, hz, hS1⟩ hl
  · intro v ω' n' H1 locs1 hq hH hz hS1
    exact K v ω' n' hq p e R s m args below meth c H1 locs1 (cells + cs') (slots + sl') mc ms ls hC ⟨by show cells + cs' + (B.1 - cs') ≤ mc; omega, by show slots + sl' + (B.2 - sl') ≤ ms; omega, q3, q4, hH, hz, hS1⟩ hl
/-- the contract of a method with a table that throws nothing -/
def ConW (Θ : GP) (d cs sl : Nat) (y : MethodName) (cc : ByteArray) (nL : Nat) (ret : Option FieldType) (hh : List (Nat × Nat × Nat × Nat)) (av : List Value) (ω : OW) (n : Nat) (Qv : Option Value → OW → Nat → Prop) : Prop :=
  Met (gl Θ) y (.codeWith y cc nL ret hh :: g_T) { frames := d, cells := cs, slots := sl, locals := 64 * d } (fun a U => a = av.toArray ∧ g_WS Θ ω n U) (g_Qc Θ Qv) cs sl (gA Θ)
theorem ConW.of {cs sl : Nat} {av : List Value} {hh : List (Nat × Nat × Nat × Nat)} (hy : plainName y.cls = true) (hn : (lg_sl av).length ≤ nL)
    (k : G Θ y cc nL ret d (tableOf hh) Qv noX (cs, sl) 0 (lv_args 0 av) [] ω n) : ConW Θ d cs sl y cc nL ret hh av ω n Qv := by
  have h9 : vx_Met (gl Θ) y (.codeWith y cc nL ret hh :: g_T) { frames := d, cells := cs, slots := sl, locals := 64 * d } (fun a U => a = av.toArray ∧ g_WS Θ ω n U) (g_Qc Θ Qv) (g_Qx Θ noX) cs sl (gA Θ) := by
    refine vx_ofWH (cc := cc) (maxL := nL) (ret := ret) (hh := hh) hy rfl ?_
    intro p e s m args below meth c s₁ B hml hv
    obtain ⟨rfl, hW⟩ := hv
    have hts := atoms_spec (ws := .codeWith y cc nL ret hh :: g_T) B.pre
    have hl := lv_entry av (n := nL) hn
    rw [lg_entry_eq]
    obtain ⟨h1, h2, h3⟩ := hW
    exact k p e _ s m _ below meth c s.heap [] 0 0 cs sl _ ⟨B.exec, B.bytes, B.returns, hml, findClass_of_methodNamed B.named, fun w hw => hts w (List.mem_cons_of_mem _ hw), B.notSynchronized, vx_table (x := y) B (hts _ List.mem_cons_self), Nat.le_refl _, Nat.le_refl _, h1, h1.2.2.2.2.2.2.2.2.2.1, (name_of_methodNamed B.named B.method).1⟩
      ⟨by show 0 + cs ≤ cs; omega, by show 0 + sl ≤ sl; omega, Nat.le_refl _, Nat.le_refl _, h2, h3, va_S.rf⟩ hl
  intro p e h1 h2 h3 s m args below h4 h5 h6 h7
  obtain ⟨k, o, a1, a2, a3, a4⟩ := h9 p e h1 h2 h3 s m args below h4 h5 h6 h7
  refine ⟨k, o, a1, a2, a3, ?_⟩
  rcases a4 with a4 | ⟨q, -, E, ce, L, ⟨ω', n', hx, -⟩, -⟩
  · exact a4
  · exact hx.elim
theorem g_callSW {index na d' cs' sl' nL' : Nat} {y' : MethodName} {cc' : ByteArray} {ret' : Option FieldType} {hh : List (Nat × Nat × Nat × Nat)} {As st0 : List Value} {Qv' : Option Value → OW → Nat → Prop} (L : g_Mw y.cls index y' cc' nL' ret' hh na) (hd : decode cc pc = .ok (.invokestatic index, 3))
    (hna : As.length = na) (hst : st0 = As.reverse ++ st) (hcat : (st.map fun v => v.category).sum ≤ 8) (hm : ConW Θ d' cs' sl' y' cc' nL' ret' hh As ω n Qv') (hdep : d' + 1 ≤ d) (hB1 : cs' ≤ B.1) (hB2 : sl' ≤ B.2)
    (K : ∀ v ω' n', Qv' v ω' n' → G Θ y cc nL ret d tab Qv Qx (B.1 - cs', B.2 - sl') (pc + 3) lv (v.toList ++ st) ω' n') : G Θ y cc nL ret d tab Qv Qx B pc lv st0 ω n := by
  intro p e R s m args below meth c H locs cells slots mc ms ls hC hS hl
  obtain ⟨q1, q2, q3, q4, q5, q6, q7⟩ := hS
  obtain ⟨l1, l2, l3, l4, l6, l7⟩ := L
  have hts := hC.2.2.2.2.2.1
  have hfr := hC.2.2.2.2.2.2.2.2.1
  have hlo := hC.2.2.2.2.2.2.2.2.2.1
  have hg : GoodIn g_T (va_wsS y.cls index y' (.codeWith y' cc' nL' ret' hh :: g_T)) := by
    intro w hw
    unfold va_wsS at hw
    rcases List.mem_append.mp hw with h | h
    · simp only [List.mem_cons, List.not_mem_nil, or_false] at h
      rcases h with rfl | rfl | rfl
      · exact ⟨l3, good_of_word (g_T_good _ l3)⟩
      · exact ⟨l4, good_of_word (g_T_good _ l4)⟩
      · exact ⟨l6, good_of_word (g_T_good _ l6)⟩
    · exact g_T_self l7 w h
  refine g_runM (vx_runSW (As := As) (rest := st) (hh := hh) ⟨hC.1, hC.2.1, hC.2.2.2.1, hC.2.2.2.2.1, hts⟩ hm (vx_cwSW na hts hg rfl rfl rfl l1 ⟨by show d' + 1 ≤ R.frames; omega, by show 8 + (nL' + 11) + 64 * d' ≤ R.locals; omega⟩) ⟨?_, fun U hU hW => ⟨rfl, g_SF.at hC.sf q7 hU hW, by rw [hU]; exact q5, by rw [hU]; exact q6⟩⟩ rfl hna hl.1 hst (lv_room hcat) hd ⟨by omega, by omega⟩) q7 ?_
  · intro a U g mk hp
    exact ⟨hp.1, hp.2.calling g mk a⟩
  · intro v ω' n' H1 locs1 hq hH hz hS1
    exact K v ω' n' hq p e R s m args below meth c H1 locs1 (cells + cs') (slots + sl') mc ms ls hC ⟨by show cells + cs' + (B.1 - cs') ≤ mc; omega, by show slots + sl' + (B.2 - sl') ≤ ms; omega, q3, q4, hH, hz, hS1⟩ hl
end G9
/-- what a wrapper of the law gives: 0 and the answer laid into its row, or the number of the exception's clause -/
def wrI (Θ : GP) (out : Nat) (E1 E2 : String) (R : RO) : Option (Int32 × OW) := match R with
  | some (.inl (some (.int x), ω, _)) => (match ω out with
    | some (.inl (c, len, .inr (.inl f))) => if c = gJ Θ ∧ 0 < len then some (0, g_upd ω out (.inl (gJ Θ, len, .inr (.inl (vp_updL f 0 x.toInt64))))) else none
    | _ => none)
  | some (.inr (E, ω)) => if E = E1 then some (1, ω) else if E = E2 then some (2, ω) else none
  | _ => none
def wrV (E1 E2 : String) (R : RO) : Option (Int32 × OW) := match R with
  | some (.inl (none, ω, _)) => some (0, ω)
  | some (.inr (E, ω)) => if E = E1 then some (1, ω) else if E = E2 then some (2, ω) else none
  | _ => none
theorem wrI_inv {Θ : GP} {out : Nat} {E1 E2 : String} {R : RO} {x : Int32} {ω' : OW} (h : wrI Θ out E1 E2 R = some (x, ω')) : (∃ v ω n len f, R = some (.inl (some (.int v), ω, n)) ∧ ω out = some (.inl (gJ Θ, len, .inr (.inl f))) ∧ 0 < len ∧ x = 0 ∧ ω' = g_upd ω out (.inl (gJ Θ, len, .inr (.inl (vp_updL f 0 v.toInt64))))) ∨ (R = some (.inr (E1, ω')) ∧ x = 1) ∨ (R = some (.inr (E2, ω')) ∧ x = 2) := by
  unfold wrI at h
  split at h
  · split at h
    · split at h
      · rename_i hc
        obtain ⟨rfl, hl⟩ := hc
        cases h
        exact Or.inl ⟨_, _, _, _, _, rfl, by assumption, hl, rfl, rfl⟩
      · cases h
    · cases h
  · split at h
    · rename_i hc
      subst hc
      cases h
      exact Or.inr (Or.inl ⟨rfl, rfl⟩)
    · split at h
      · rename_i hc
        subst hc
        cases h
        exact Or.inr (Or.inr ⟨rfl, rfl⟩)
      · cases h
  · cases h
theorem wrV_inv {E1 E2 : String} {R : RO} {x : Int32} {ω' : OW} (h : wrV E1 E2 R = some (x, ω')) : (∃ n, R = some (.inl (none, ω', n)) ∧ x = 0) ∨ (R = some (.inr (E1, ω')) ∧ x = 1) ∨ (R = some (.inr (E2, ω')) ∧ x = 2) := by
  unfold wrV at h
  split at h
  · cases h
    exact Or.inl ⟨_, rfl, rfl⟩
  · split at h
    · rename_i hc
      subst hc
      cases h
      exact Or.inr (Or.inl ⟨rfl, rfl⟩)
    · split at h
      · rename_i hc
        subst hc
        cases h
        exact Or.inr (Or.inr ⟨rfl, rfl⟩)
      · cases h
  · cases h
def qw (x : Int32) (ω' : OW) : Option Value → OW → Nat → Prop := fun v ω _ => v = some (.int x) ∧ ω = ω'
