section G7
variable {Θ : GP} {y : MethodName} {cc : ByteArray} {nL : Nat} {ret : Option FieldType} {d : Nat} {tab : List ExceptionTableEntry} {Qv : Option Value → OW → Nat → Prop} {Qx : String → OW → Nat → Prop} {B : Nat × Nat} {pc : Nat} {lv : List (Nat × Value)} {st : List Value} {ω : OW} {n : Nat}
theorem g_anew {index N' : Nat} {k : Int32} (hk : Cond.classLink y.cls index "GhostAssize$Court" ∈ g_T) (hd : decode cc pc = .ok (.anewarray index, 3)) (hn : ¬ k < 0) (hN : k.toNatClampNeg = N') (hbytes : N' * 4 ≤ 536870912) (hB1 : 1 ≤ B.1) (hB2 : N' ≤ B.2)
    (K : G Θ y cc nL ret d tab Qv Qx (B.1 - 1, B.2 - N') (pc + 3) lv (.ref n :: st) (g_upd ω n (.inl (gC Θ, N', .inr (.inr (.inr (.inr (fun _ => none))))))) (n + 1)) : G Θ y cc nL ret d tab Qv Qx B pc lv (.int k :: st) ω n := by
  refine G.make hB1 hB2 (fun p e R s m args below meth c H locs cells slots Q ls hC0 hz hlv hc hs kk => ?_) K
  have hts := hC0.2.2.2.2.2.1
  subst hN
  subst hz
  refine W.anew hC0.1 hC0.2.1 hC0.2.2.2.2.1 (hts _ hk) (va_AO.use hC0.sf.2.2.2.2.2.2.2.2.2.2.1) rfl hd rfl hn hbytes hc hs fun cA kA comp f1 f2 f3 f4 => ?_
  obtain ⟨kA9, comp9, h1, h2, h3, h4⟩ := (hC0.sf.1.2 4 (gC Θ, .object "GhostAssize$Court") (g_ty hC0 rfl)).2
  have h8 : cA = gC Θ := Option.some.inj (f1.symm.trans h4)
  subst h8
  refine kk _ ?_ (by rw [Array.size_push]) (fun q hq => by rw [Array.getElem?_push, if_neg (Nat.ne_of_lt hq)])
  show (H.push _)[H.size]? = some (vp_cell _ _)
  rw [vp_cell_q, Array.getElem?_push_size, ← arrV_new]
  rfl
theorem g_aast {a len v : Nat} {f : Nat → Option Nat} {i : Int32} {vs : List Value} (hd : decode cc pc = .ok (.aastore, 1)) (ha : ω a = some (.inl (gC Θ, len, .inr (.inr (.inr (.inr f)))))) (hv : ω v = some (.inr (0, vs))) (hi : vp_in i len)
    (K : G Θ y cc nL ret d tab Qv Qx B (pc + 1) lv st (g_upd ω a (.inl (gC Θ, len, .inr (.inr (.inr (.inr (va_up f i.toNatClampNeg (some v)))))))) n) : G Θ y cc nL ret d tab Qv Qx B pc lv (.ref v :: .int i :: .ref a :: st) ω n := by
  intro p e R s m args below meth c H locs cells slots mc ms ls hC hS hl
  obtain ⟨q1, q2, q3, q4, q5, q6, q7⟩ := hS
  obtain ⟨ws, j, hj, hL, hP, hD⟩ := q5.get ha
  obtain ⟨jv, hjv⟩ := (hL v _).mp hv
  have hA : gA Θ a := hD.2 j _ hj
  have hlt : i.toNatClampNeg < len := Nat.not_le.mp fun q => hi (Or.inr q)
  have h0 : ¬ i < 0 := fun q => hi (Or.inl q)
  obtain ⟨r', hr', cellV, g1, g2, g3, -⟩ := hP jv _ hjv
  have hcls := (hC.sf.1.1 0 (RX0, TX0, 18) rfl).2
  obtain ⟨kA, comp, k1, k2, k3, -⟩ := (hC.sf.1.2 4 (gC Θ, .object "GhostAssize$Court") (g_ty hC rfl)).2
  have hcomp : comp = (gD Θ).1 0 := Option.some.inj (k3.symm.trans hcls.1)
  subst hcomp
  obtain ⟨kC, hkC, -⟩ := hcls.2
  refine W.aast hC.1 hC.2.1 (hP j _ hj) (fun q h => by cases h) (fun h => by cases h) k1 k2 rfl hkC ⟨h0, by show _ < (arrV _ _ _).slots.size; rw [arrV_size]; exact hlt⟩ g1 (fun q h => by rw [g3] at h; cases h) (by rw [g2]; exact hkC) (by rw [g2]; exact va_assign hcls) rfl rfl hd fun H1 e1 z oq => ?_
  refine K p e R s m args below meth c H1 _ cells slots mc ms ls hC ⟨q1, q2, q3, q4, ⟨_, hL.set hD hj _, hP.set hD hj ?_ oq, hD.set hj⟩, z.trans q6, q7.put z oq hA⟩ hl
  show H1[a]? = some (vp_cell _ _)
  rw [e1]
  rw [vp_cell_q, vp_cell_q, arrV_store]
  congr 2
  funext q
  by_cases hq : q = i.toNatClampNeg
  · subst hq
    simp [updV, va_up, va_rf]
  · simp [updV, va_up, hq]
/-- the call's run, and what is behind it -/
theorem g_run {p : Program} {e : Env} {R : Room} {s : State} {m : MethodId} {args : Array Value} {below : List Frame} {meth : Method} {c : Code} {H : Heap} {locs : List Loc} {cells slots mc ms : Nat} {Q : State → Prop} {ls : Array Slot} {st0 rest : List Value} {a : Array Value} {Qv' : Option Value → OW → Nat → Prop} {Qx' : String → OW → Nat → Prop}
    (hr : vx_Run p (gl Θ) e R s m args below meth c H locs cells slots mc ms (F0 m pc ls st0) rest (g_Qc Θ Qv' a) (g_Qx Θ Qx') (gA Θ)) (hS : va_S (gA Θ) s.heap H locs)
    (kx : ∀ (E : String) (ce : Cell) (q9 : Addr) (ω' : OW) (n' : Nat) (H1 : Heap) (locs1 : List Loc), Qx' E ω' n' → g_H Θ ω' H1 → H1.size = n' → va_S (gA Θ) s.heap H1 locs1 → H1[q9]? = some ce → ce.vm = .none → s.vm.findClass E = some ce.cls → vx_W p (gl Θ) e R s m args below meth c H1 locs1 (cells + mc) (slots + ms) Q (F0 m pc ls rest) q9)
    (kk : ∀ (v : Option Value) (ω' : OW) (n' : Nat) (H1 : Heap) (locs1 : List Loc), Qv' v ω' n' → g_H Θ ω' H1 → H1.size = n' → va_S (gA Θ) s.heap H1 locs1 → W p (gl Θ) e R s m args below meth c H1 locs1 (cells + mc) (slots + ms) Q (F0 m (pc + 3) ls (v.toList ++ rest))) : W p (gl Θ) e R s m args below meth c H locs cells slots Q (F0 m pc ls st0) := by
  intro T hT X
  rcases hr T hT X with ⟨v, st₀, t, T', L, h0, X', hL, e1, e2, ⟨v', ω', n', hv, hq, hH, hz, hF⟩, hgo⟩ | ⟨q, st₀, t, T', L, E, ce, h0, X', hL, e1, e2, ⟨ω', n', hq, hH, hz, hF⟩, hce, hcv, hcl, hgo⟩
  · cases hv
    obtain ⟨k1, k2, k3⟩ := vx_keep h0 e1 hS (fun _ _ h => h) (fun _ h => h) hL hF
    obtain ⟨t2, a1, b1⟩ := kk v ω' n' T'.heap (locs ++ L) hq (by rw [e1]; exact hH) (by rw [e1]; exact hz) k3 T' rfl X'
    exact ⟨t2, hgo t2 a1, b1⟩
  · obtain ⟨k1, k2, k3⟩ := vx_keep h0 e1 hS (fun _ _ h => h) (fun _ h => h) hL hF
    obtain ⟨t2, a1, b1⟩ := kx E ce q ω' n' T'.heap (locs ++ L) hq (by rw [e1]; exact hH) (by rw [e1]; exact hz) k3 (by rw [e1]; exact hce) hcv hcl T' rfl X'
    exact ⟨t2, hgo.trans a1, b1⟩
theorem g_WS.calling {U : State} (h : g_WS Θ ω n U) (g : JFrame) (mk : MethodId) (a : Array Value) : g_WS Θ ω n (U.calling g mk a) := by
  obtain ⟨h1, h2, h3⟩ := h
  exact ⟨g_SF.at (U := U.calling g mk a) h1 (va_S.rf (A := gA Θ) (H0 := U.heap)) rfl (State.WarmedH.refl U), h2, h3⟩
theorem g_callV {index na ci a d' cs' sl' nL' N : Nat} {C : String} {T : u_T} {y' : MethodName} {cc' : ByteArray} {ret' : Option FieldType} {As st0 fs : List Value} {Qv' : Option Value → OW → Nat → Prop} {Qx' : String → OW → Nat → Prop} (L : g_Mv y.cls index C y' cc' nL' ret' na) (hd : decode cc pc = .ok (.invokevirtual index, 3)) (hc : vwCl[ci]? = some (C, T, N)) (ha : ω a = some (.inr (ci, fs)))
    (hna : As.length = na) (hst : st0 = As.reverse ++ .ref a :: st) (hcat : (st.map fun v => v.category).sum ≤ 8) (hm : Con Θ d' cs' sl' y' cc' nL' ret' (.ref a :: As) ω n Qv' Qx') (hdep : d' + 1 ≤ d) (hB1 : cs' ≤ B.1) (hB2 : sl' ≤ B.2) (htab : tab = []) (hx : ∀ E ω' n', Qx' E ω' n' → Qx E ω' n')
    (K : ∀ v ω' n', Qv' v ω' n' → G Θ y cc nL ret d tab Qv Qx (B.1 - cs', B.2 - sl') (pc + 3) lv (v.toList ++ st) ω' n') : G Θ y cc nL ret d tab Qv Qx B pc lv st0 ω n := by
  intro p e R s m args below meth c H locs cells slots mc ms ls hC hS hl
  obtain ⟨q1, q2, q3, q4, q5, q6, q7⟩ := hS
  obtain ⟨l1, l2, l3, l4, l5, l6, l7⟩ := L
  obtain ⟨ws, j, hj, -, hP, -⟩ := q5.get ha
  have hts := hC.2.2.2.2.2.1
  have hfr := hC.2.2.2.2.2.2.2.2.1
  have hlo := hC.2.2.2.2.2.2.2.2.2.1
  have hg : GoodIn g_T (wsV y.cls index C y' (.code y' cc' nL' ret' :: g_T)) := by
    intro w hw
    unfold wsV at hw
    rcases List.mem_append.mp hw with h | h
    · simp only [List.mem_cons, List.not_mem_nil, or_false] at h
      rcases h with rfl | rfl | rfl | rfl
      · exact ⟨l3, good_of_word (g_T_good _ l3)⟩
      · exact ⟨l4, good_of_word (g_T_good _ l4)⟩
      · exact ⟨l5, good_of_word (g_T_good _ l5)⟩
      · exact ⟨l6, good_of_word (g_T_good _ l6)⟩
    · exact g_T_self l7 w h
  subst htab
  refine g_run (vx_runV (As := As) (rest := st) ⟨hC.1, hC.2.1, hC.2.2.2.1, hC.2.2.2.2.1, hts⟩ hm (cwV (C := C) na hts hg rfl rfl rfl l1 ⟨by show d' + 1 ≤ R.frames; omega, by show 8 + (nL' + 11) + 64 * d' ≤ R.locals; omega⟩) ⟨?_, va_recv hC.sf.1 hP hc hj, fun U hU hW => ⟨rfl, g_SF.at hC.sf q7 hU hW, by rw [hU]; exact q5, by rw [hU]; exact q6⟩⟩ rfl hna hl.1 hst (lv_room hcat) hd ⟨by omega, by omega⟩) q7 ?_ ?_
  · intro a U g mk hp
    exact ⟨hp.1, hp.2.calling g mk a⟩
  · intro E ce q9 ω' n' H1 locs1 hq hH hz hS1 hce hcv hcl
    exact vx_out (by rw [hC.2.2.2.2.2.2.2.1]; intro x hx; cases hx) hC.2.2.2.2.2.2.1 hce hcv hcl (fun t ht _ => ⟨ω', n', hx _ _ _ hq, by rw [ht]; exact hH, by rw [ht]; exact hz, hS1.F ht⟩) hS1.2.2 (by omega) (by omega)
  · intro v ω' n' H1 locs1 hq hH hz hS1
    exact K v ω' n' hq p e R s m args below meth c H1 locs1 (cells + cs') (slots + sl') mc ms ls hC ⟨by show cells + cs' + (B.1 - cs') ≤ mc; omega, by show slots + sl' + (B.2 - sl') ≤ ms; omega, q3, q4, hH, hz, hS1⟩ hl
theorem g_callS {index na d' cs' sl' nL' : Nat} {y' : MethodName} {cc' : ByteArray} {ret' : Option FieldType} {As st0 : List Value} {Qv' : Option Value → OW → Nat → Prop} {Qx' : String → OW → Nat → Prop} (L : g_Ms y.cls index y' cc' nL' ret' na) (hd : decode cc pc = .ok (.invokestatic index, 3))
    (hna : As.length = na) (hst : st0 = As.reverse ++ st) (hcat : (st.map fun v => v.category).sum ≤ 8) (hm : Con Θ d' cs' sl' y' cc' nL' ret' As ω n Qv' Qx') (hdep : d' + 1 ≤ d) (hB1 : cs' ≤ B.1) (hB2 : sl' ≤ B.2) (htab : tab = []) (hx : ∀ E ω' n', Qx' E ω' n' → Qx E ω' n')
    (K : ∀ v ω' n', Qv' v ω' n' → G Θ y cc nL ret d tab Qv Qx (B.1 - cs', B.2 - sl') (pc + 3) lv (v.toList ++ st) ω' n') : G Θ y cc nL ret d tab Qv Qx B pc lv st0 ω n := by
  intro p e R s m args below meth c H locs cells slots mc ms ls hC hS hl
  obtain ⟨q1, q2, q3, q4, q5, q6, q7⟩ := hS
  obtain ⟨l1, l2, l3, l4, l6, l7⟩ := L
  have hts := hC.2.2.2.2.2.1
  have hfr := hC.2.2.2.2.2.2.2.2.1
  have hlo := hC.2.2.2.2.2.2.2.2.2.1
  subst htab
  refine g_run (vx_runS (As := As) (rest := st) ⟨hC.1, hC.2.1, hC.2.2.2.1, hC.2.2.2.2.1, hts⟩ hm ⟨callB_of na hts (g_T_self l7) rfl rfl rfl (hts _ l6) (hts _ l3) l1 ⟨by show d' + 1 ≤ R.frames; omega, by show 8 + (nL' + 11) + 64 * d' ≤ R.locals; omega⟩, hts _ l4⟩ ⟨?_, fun U hU hW => ⟨rfl, g_SF.at hC.sf q7 hU hW, by rw [hU]; exact q5, by rw [hU]; exact q6⟩⟩ rfl hna hl.1 hst (lv_room hcat) hd ⟨by omega, by omega⟩) q7 ?_ ?_
  · intro a U g mk hp
    exact ⟨hp.1, hp.2.calling g mk a⟩
  · intro E ce q9 ω' n' H1 locs1 hq hH hz hS1 hce hcv hcl
    exact vx_out (by rw [hC.2.2.2.2.2.2.2.1]; intro x hx; cases hx) hC.2.2.2.2.2.2.1 hce hcv hcl (fun t ht _ => ⟨ω', n', hx _ _ _ hq, by rw [ht]; exact hH, by rw [ht]; exact hz, hS1.F ht⟩) hS1.2.2 (by omega) (by omega)
  · intro v ω' n' H1 locs1 hq hH hz hS1
    exact K v ω' n' hq p e R s m args below meth c H1 locs1 (cells + cs') (slots + sl') mc ms ls hC ⟨by show cells + cs' + (B.1 - cs') ≤ mc; omega, by show slots + sl' + (B.2 - sl') ≤ ms; omega, q3, q4, hH, hz, hS1⟩ hl
end G7
