section GN1
variable {p : Program} {l : Launch} {e : Env} {R : Room} {s : State} {m : MethodId} {args : Array Value} {below : List Frame} {meth : Method} {c : Code} {H : Heap} {locs : List Loc} {cells slots : Nat} {Q : State → Prop}
variable {cc : ByteArray} {pc : Nat} {ls : Array Slot} {rest : List Value}
theorem lvN_aload_n (hexec : p.tables.exec = Jvm.exec) (hb : c.code = cc) {k : Fin 4} {i : Nat} (hdg : decode cc pc = .ok (.aload_n k, 1)) (hi : (k : Nat) = i) (hl : ls[i]? = some (.val .null))
    (k : W p l e R s m args below meth c H locs cells slots Q (F0 m (pc + 1) ls (.null :: rest))) : W p l e R s m args below meth c H locs cells slots Q (F0 m pc ls (rest)) := by
  subst hi
  intro T hT X
  obtain ⟨t, a, b⟩ := k T hT X
  refine ⟨t, ?_, b⟩
  jvm_step X.here [X.here.top, hexec, hb, hdg, hl, Value.isRef]
  exact a
theorem lvN_astore_n (hexec : p.tables.exec = Jvm.exec) (hb : c.code = cc) {k : Fin 4} {i nL : Nat} {lv lv' : List (Nat × Value)} (hdg : decode cc pc = .ok (.astore_n k, 1)) (hi : (k : Nat) = i) (h : lv_has ls nL lv) (hn : i < nL) (hl : (i, Value.null) :: lv.filter (fun q => !(q.1 == i) && !(q.1 + 1 == i && q.2.category == 2)) = lv')
    (kk : ∀ ls' : Array Slot, lv_has ls' nL lv' → W p l e R s m args below meth c H locs cells slots Q (F0 m (pc + 1) ls' rest)) : W p l e R s m args below meth c H locs cells slots Q (F0 m pc ls (.null :: rest)) := by
  subst hi
  obtain ⟨ls', e', h'⟩ := lv_store1 (v := .null) h hn rfl
  intro T hT X
  obtain ⟨t, a, b⟩ := kk ls' (hl ▸ h') T hT X
  refine ⟨t, ?_, b⟩
  jvm_step X.here [X.here.top, ↓top_set X.here.top, hexec, hb, hdg, e', Value.isRef]
  exact a
end GN1
section GN2
variable {Θ : GP} {y : MethodName} {cc : ByteArray} {nL : Nat} {ret : Option FieldType} {d : Nat} {tab : List ExceptionTableEntry} {Qv : Option Value → OW → Nat → Prop} {Qx : String → OW → Nat → Prop} {B : Nat × Nat} {pc : Nat} {lv : List (Nat × Value)} {st : List Value} {ω : OW} {n : Nat}
theorem g_aload_nN {q : Fin 4} {i : Nat} (hd : decode cc pc = .ok (.aload_n q, 1)) (hi : (q : Nat) = i) (j : Nat) (hj : lv[j]? = some (i, .null)) (k : G Θ y cc nL ret d tab Qv Qx B (pc + 1) lv (.null :: st) ω n) : G Θ y cc nL ret d tab Qv Qx B (pc) lv (st) ω n := G.pure (fun _ _ _ _ _ _ _ _ _ _ _ _ _ _ _ hx hb hl kk => lvN_aload_n hx hb hd hi (lv_at hl j hj) (kk _ hl)) k
theorem g_astore_nN {q : Fin 4} {i : Nat} {lv' : List (Nat × Value)} (hd : decode cc pc = .ok (.astore_n q, 1)) (hi : (q : Nat) = i) (hn : i < nL) (hv : (i, Value.null) :: lv.filter (fun q => !(q.1 == i) && !(q.1 + 1 == i && q.2.category == 2)) = lv') (k : G Θ y cc nL ret d tab Qv Qx B (pc + 1) lv' (st) ω n) : G Θ y cc nL ret d tab Qv Qx B (pc) lv (.null :: st) ω n := G.pure (fun _ _ _ _ _ _ _ _ _ _ _ _ _ _ _ hx hb hl kk => lvN_astore_n hx hb hd hi hl hn hv kk) k
end GN2
