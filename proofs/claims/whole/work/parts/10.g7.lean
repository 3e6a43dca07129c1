section G8
variable {Θ : GP} {y : MethodName} {cc : ByteArray} {nL : Nat} {ret : Option FieldType} {d : Nat} {tab : List ExceptionTableEntry} {Qv : Option Value → OW → Nat → Prop} {Qx : String → OW → Nat → Prop} {B : Nat × Nat} {pc : Nat} {lv : List (Nat × Value)} {st : List Value} {ω : OW} {n : Nat}
abbrev noX : String → OW → Nat → Prop := fun _ _ _ => False
theorem Con.met {cs sl : Nat} {av : List Value} (h : Con Θ d cs sl y cc nL ret av ω n Qv noX) : Met (gl Θ) y (.code y cc nL ret :: g_T) { frames := d, cells := cs, slots := sl, locals := 64 * d } (fun a U => a = av.toArray ∧ g_WS Θ ω n U) (g_Qc Θ Qv) cs sl (gA Θ) := by
  intro p e h1 h2 h3 s m args below h4 h5 h6 h7
  obtain ⟨k, o, a1, a2, a3, a4⟩ := h p e h1 h2 h3 s m args below h4 h5 h6 h7
  refine ⟨k, o, a1, a2, a3, ?_⟩
  rcases a4 with a4 | ⟨q, -, E, ce, L, ⟨ω', n', hx, -⟩, -⟩
  · exact a4
  · exact hx.elim
theorem Con.post {cs sl : Nat} {av : List Value} {Qv' : Option Value → OW → Nat → Prop} {Qx' : String → OW → Nat → Prop} (h : Con Θ d cs sl y cc nL ret av ω n Qv Qx) (h1 : ∀ v ω' n', Qv v ω' n' → Qv' v ω' n') (h2 : ∀ E ω' n', Qx E ω' n' → Qx' E ω' n') : Con Θ d cs sl y cc nL ret av ω n Qv' Qx' := by
  intro p e g1 g2 g3 s m args below g4 g5 g6 g7
  obtain ⟨k, o, a1, a2, a3, a4⟩ := h p e g1 g2 g3 s m args below g4 g5 g6 g7
  refine ⟨k, o, a1, a2, a3, ?_⟩
  rcases a4 with ⟨⟨v, ω', n', b1, b2, b3⟩, a5⟩ | ⟨q, e1, E, ce, L, ⟨ω', n', hx, b3⟩, b4⟩
  · exact Or.inl ⟨⟨v, ω', n', b1, h1 _ _ _ b2, b3⟩, a5⟩
  · exact Or.inr ⟨q, e1, E, ce, L, ⟨ω', n', h2 _ _ _ hx, b3⟩, b4⟩
theorem g_runM {p : Program} {e : Env} {R : Room} {s : State} {m : MethodId} {args : Array Value} {below : List Frame} {meth : Method} {c : Code} {H : Heap} {locs : List Loc} {cells slots mc ms : Nat} {Q : State → Prop} {ls : Array Slot} {st0 rest : List Value} {a : Array Value} {Qv' : Option Value → OW → Nat → Prop}
    (hr : va_Run p (gl Θ) e R s m args below meth c H locs cells slots mc ms (F0 m pc ls st0) rest (g_Qc Θ Qv' a) (gA Θ)) (hS : va_S (gA Θ) s.heap H locs)
    (kk : ∀ (v : Option Value) (ω' : OW) (n' : Nat) (H1 : Heap) (locs1 : List Loc), Qv' v ω' n' → g_H Θ ω' H1 → H1.size = n' → va_S (gA Θ) s.heap H1 locs1 → W p (gl Θ) e R s m args below meth c H1 locs1 (cells + mc) (slots + ms) Q (F0 m (pc + 3) ls (v.toList ++ rest))) : W p (gl Θ) e R s m args below meth c H locs cells slots Q (F0 m pc ls st0) := by
  intro T hT X
  obtain ⟨v, st₀, t, T', L, h0, X', hL, e1, e2, ⟨v', ω', n', hv, hq, hH, hz, hF⟩, hgo⟩ := hr T hT X
  cases hv
  obtain ⟨k1, k2, k3⟩ := vx_keep h0 e1 hS (fun _ _ h => h) (fun _ h => h) hL hF
  obtain ⟨t2, a1, b1⟩ := kk v ω' n' T'.heap (locs ++ L) hq (by rw [e1]; exact hH) (by rw [e1]; exact hz) k3 T' rfl X'
  exact ⟨t2, hgo t2 a1, b1⟩
theorem g_callI {index na a d' cs' sl' nL' : Nat} {y' : MethodName} {cc' : ByteArray} {As st0 : List Value} {Qv' : Option Value → OW → Nat → Prop} (L : g_Mi y.cls index y' cc' nL' na) (hd : decode cc pc = .ok (.invokespecial index, 3))
    (hna : As.length = na) (hst : st0 = As.reverse ++ .ref a :: st) (hcat : (st.map fun v => v.category).sum ≤ 8) (hm : Con Θ d' cs' sl' y' cc' nL' none (.ref a :: As) ω n Qv' noX) (hdep : d' + 1 ≤ d) (hB1 : cs' ≤ B.1) (hB2 : sl' ≤ B.2)
    (K : ∀ v ω' n', Qv' v ω' n' → G Θ y cc nL ret d tab Qv Qx (B.1 - cs', B.2 - sl') (pc + 3) lv (v.toList ++ st) ω' n') : G Θ y cc nL ret d tab Qv Qx B pc lv st0 ω n := by
  intro p e R s m args below meth c H locs cells slots mc ms ls hC hS hl
  obtain ⟨q1, q2, q3, q4, q5, q6, q7⟩ := hS
  obtain ⟨l1, l2, l3, l4, l5, l6, l7⟩ := L
  have hts := hC.2.2.2.2.2.1
  have hfr := hC.2.2.2.2.2.2.2.2.1
  have hlo := hC.2.2.2.2.2.2.2.2.2.1
  have hp : PreS s H (fun a' U => a' = (Value.ref a :: As).toArray ∧ g_WS Θ ω n U) (.ref a :: As) := by
    refine ⟨?_, fun U hU hW => ⟨rfl, g_SF.at hC.sf q7 hU hW, by rw [hU]; exact q5, by rw [hU]; exact q6⟩⟩
    intro a U g mk hp
    exact ⟨hp.1, hp.2.calling g mk a⟩
  have hk : ∀ (v : Option Value) (ω' : OW) (n' : Nat) (H1 : Heap) (locs1 : List Loc), Qv' v ω' n' → g_H Θ ω' H1 → H1.size = n' → va_S (gA Θ) s.heap H1 locs1 → W p (gl Θ) e R s m args below meth c H1 locs1 (cells + cs') (slots + sl') (vx_MQ below (g_Qc Θ Qv) (g_Qx Θ Qx) args s mc ms (gA Θ)) (F0 m (pc + 3) ls (v.toList ++ st)) := by
    intro v ω' n' H1 locs1 hq hH hz hS1
    exact K v ω' n' hq p e R s m args below meth c H1 locs1 (cells + cs') (slots + sl') mc ms ls hC ⟨by show cells + cs' + (B.1 - cs') ≤ mc; omega, by show slots + sl' + (B.2 - sl') ≤ ms; omega, q3, q4, hH, hz, hS1⟩ hl
  rcases l7 with l7 | l7
  · exact g_runM (va_runI (As := As) (rest := st) ⟨hC.1, hC.2.1, hC.2.2.2.1, hC.2.2.2.2.1, hts⟩ hm.met (cwI na hts (g_T_self l6) rfl rfl rfl (hts _ l5) (hts _ l7) (hts _ l4) l3 l1 ⟨by show d' + 1 ≤ R.frames; omega, by show 8 + (nL' + 11) + 64 * d' ≤ R.locals; omega⟩) hp rfl hna hl.1 hst (lv_room hcat) hd ⟨by omega, by omega⟩) q7 hk
  · exact g_runM (va_runIN (As := As) (rest := st) (host := "GhostAssize") ⟨hC.1, hC.2.1, hC.2.2.2.1, hC.2.2.2.2.1, hts⟩ hm.met ⟨va_cnB na hts (g_T_self l6) rfl rfl rfl (hC.sf.2.2.2.2.2.2.1 _ l7) (hts _ l5) l1 ⟨by show d' + 1 ≤ R.frames; omega, by show 8 + (nL' + 11) + 64 * d' ≤ R.locals; omega⟩, l3, hts _ l4⟩ hp rfl hna hl.1 hst (lv_room hcat) hd ⟨by omega, by omega⟩) q7 hk
/-- what a 'throw new cls("text")' needs of own's pool -/
def g_Th (own : String) (ik ic : Nat) (cls : String) : Prop := Bundle.fit cls = true ∧ Cond.classLink own ik cls ∈ g_T ∧ Cond.initialized cls ∈ g_T ∧ (∀ w ∈ vx_atS own ic cls ["java/lang/RuntimeException", "java/lang/Exception"], w ∈ g_T ∨ w ∈ g_N) ∧ ∀ w ∈ Cond.classLink own ik cls :: Cond.initialized cls :: vx_atS own ic cls ["java/lang/RuntimeException", "java/lang/Exception"], vx_ot w = true
theorem g_N_tab : ∀ w ∈ g_N, w.onTables = true := by
  intro w hw
  simp only [g_N, List.mem_cons, List.not_mem_nil, or_false] at hw
  rcases hw with rfl | rfl | rfl | rfl | rfl | rfl | rfl | rfl | rfl | rfl | rfl | rfl
  all_goals rfl
theorem g_throw {ik is ic q : Nat} {cls text : String} (h : g_Th y.cls ik ic cls) (hq : g_strs[q]? = some (y.cls, is, text))
    (d0 : decode cc pc = .ok (.new ik, 3)) (d3 : decode cc (pc + 3) = .ok (.dup, 1)) (d4 : decode cc (pc + 4) = .ok (.ldc is, 2)) (d6 : decode cc (pc + 6) = .ok (.invokespecial ic, 3)) (d9 : decode cc (pc + 9) = .ok (.athrow, 1))
    (htab : tab = []) (hdep : 6 ≤ d) (hB1 : 1 ≤ B.1) (hB2 : 6 ≤ B.2) (hcat : (st.map fun v => v.category).sum ≤ 8) (hx : ∀ n', n ≤ n' → Qx cls ω n') : G Θ y cc nL ret d tab Qv Qx B pc lv st ω n := by
  intro p e R s m args below meth c H locs cells slots mc ms ls hC hS hl
  obtain ⟨q1, q2, q3, q4, q5, q6, q7⟩ := hS
  obtain ⟨t1, t2, t3, t4, t5⟩ := h
  have hts := hC.2.2.2.2.2.1
  have hfr := hC.2.2.2.2.2.2.2.2.1
  have hlo := hC.2.2.2.2.2.2.2.2.2.1
  have hout : ∀ x ∈ c.exceptionTable.toList, covers x (pc + 9) = false := by
    rw [hC.2.2.2.2.2.2.2.1, htab]; intro x hx; cases hx
  refine vx_throwS (names := ["java/lang/RuntimeException", "java/lang/Exception"]) (sa := gK Θ q) (text := text) hC.1 hC.2.1 hC.sf.2.2.2.2.2.2.2.2.2.1 hC.2.2.2.2.1 t1 (by decide +kernel) (hts _ t2) (hts _ t3) (hC.sf.2.2.2.2.1 q _ hq)
    (fun w hw => (t4 w hw).elim (fun z => hts _ z) (fun z => va_Nw.use (g_N_tab _ z) (hC.sf.2.2.2.2.2.2.1 _ z))) t5 hC.sf.2.1 hC.sf.2.2.1 q7 (hl.1.trans hC.2.2.2.1.symm) d0 d3 d4 d6 d9 hout (by show 2 + 3 < R.frames; omega) (by show _ + (13 * (2 + 1) + 43) ≤ R.locals; omega) (by omega) (by omega) hC.2.2.2.2.2.2.1 ?_ q7.2.2 (by omega) (by omega)
  intro t hal hz hk
  have hH : g_H Θ ω t.heap := by
    obtain ⟨ws, a1, a2, a3⟩ := q5
    exact ⟨ws, a1, a2.kept (fun k x hx => hk x.1 (a2 k x hx).lt), a3⟩
  refine ⟨ω, t.heap.size, hx _ (by omega), hH, rfl, Nat.le_trans q7.1 hz, fun q g1 g2 => ?_⟩
  rw [hk q (Nat.lt_of_lt_of_le g1 q7.1)]
  exact q7.2.1 q g1 g2
theorem g_throwW {ik is ic q : Nat} {cls text : String} (h : g_Th y.cls ik ic cls) (hq : g_strs[q]? = some (y.cls, is, text))
    (d0 : decode cc pc = .ok (.new ik, 3)) (d3 : decode cc (pc + 3) = .ok (.dup, 1)) (d4 : decode cc (pc + 4) = .ok (.ldc_w is, 3)) (d6 : decode cc (pc + 7) = .ok (.invokespecial ic, 3)) (d9 : decode cc (pc + 10) = .ok (.athrow, 1))
    (htab : tab = []) (hdep : 6 ≤ d) (hB1 : 1 ≤ B.1) (hB2 : 6 ≤ B.2) (hcat : (st.map fun v => v.category).sum ≤ 8) (hx : ∀ n', n ≤ n' → Qx cls ω n') : G Θ y cc nL ret d tab Qv Qx B pc lv st ω n := by
  intro p e R s m args below meth c H locs cells slots mc ms ls hC hS hl
  obtain ⟨q1, q2, q3, q4, q5, q6, q7⟩ := hS
  obtain ⟨t1, t2, t3, t4, t5⟩ := h
  have hts := hC.2.2.2.2.2.1
  have hfr := hC.2.2.2.2.2.2.2.2.1
  have hlo := hC.2.2.2.2.2.2.2.2.2.1
  have hout : ∀ x ∈ c.exceptionTable.toList, covers x (pc + 10) = false := by
    rw [hC.2.2.2.2.2.2.2.1, htab]; intro x hx; cases hx
  refine vx_throwSW (names := ["java/lang/RuntimeException", "java/lang/Exception"]) (sa := gK Θ q) (text := text) hC.1 hC.2.1 hC.sf.2.2.2.2.2.2.2.2.2.1 hC.2.2.2.2.1 t1 (by decide +kernel) (hts _ t2) (hts _ t3) (hC.sf.2.2.2.2.1 q _ hq)
    (fun w hw => (t4 w hw).elim (fun z => hts _ z) (fun z => va_Nw.use (g_N_tab _ z) (hC.sf.2.2.2.2.2.2.1 _ z))) t5 hC.sf.2.1 hC.sf.2.2.1 q7 (hl.1.trans hC.2.2.2.1.symm) d0 d3 d4 d6 d9 hout (by show 2 + 3 < R.frames; omega) (by show _ + (13 * (2 + 1) + 43) ≤ R.locals; omega) (by omega) (by omega) hC.2.2.2.2.2.2.1 ?_ q7.2.2 (by omega) (by omega)
  intro t hal hz hk
  have hH : g_H Θ ω t.heap := by
    obtain ⟨ws, a1, a2, a3⟩ := q5
    exact ⟨ws, a1, a2.kept (fun k x hx => hk x.1 (a2 k x hx).lt), a3⟩
  refine ⟨ω, t.heap.size, hx _ (by omega), hH, rfl, Nat.le_trans q7.1 hz, fun q g1 g2 => ?_⟩
  rw [hk q (Nat.lt_of_lt_of_le g1 q7.1)]
  exact q7.2.1 q g1 g2
end G8
