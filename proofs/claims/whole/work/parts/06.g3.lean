section G4
variable {Θ : GP} {y : MethodName} {cc : ByteArray} {nL : Nat} {ret : Option FieldType} {d : Nat} {tab : List ExceptionTableEntry} {Qv : Option Value → OW → Nat → Prop} {Qx : String → OW → Nat → Prop} {B : Nat × Nat} {pc : Nat} {lv : List (Nat × Value)} {st : List Value} {ω : OW} {n : Nat}
theorem g_get {index ci k a : Nat} {ty : FieldType} {fin : Bool} {fs : List Value} {v : Value} (F : g_Fl y.cls index ci k ty fin) (hd : decode cc pc = .ok (.getfield index, 3)) (ha : ω a = some (.inr (ci, fs))) (hv : fs[k]? = some v)
    (K : G Θ y cc nL ret d tab Qv Qx B (pc + 3) lv (v :: st) ω n) : G Θ y cc nL ret d tab Qv Qx B pc lv (.ref a :: st) ω n := by
  obtain ⟨C, T, N, ty0, ⟨c1, c2, c3, c4⟩, hk, hl, hC, -, -⟩ := F
  refine G.pureC (fun p e R s m args below meth c H locs cells slots Q ls hC0 hS hH hlv kk => ?_) K
  obtain ⟨ws, j, hj, -, hP, -⟩ := hH.get ha
  exact va_get hC0.1 hC0.2.1 hC0.2.2.2.2.2.1 c2 hC0.2.2.2.2.1 hC0.2.2.2.2.2.2.2.2.2.2.1.1 hP j hj c1 k hk (hC0.2.2.2.2.2.1 _ hl) (fun x h => by rw [hC] at h; exact h) hv hd (kk _ hlv)
/-- a step that changes one cell -/
theorem G.write {pc' a : Nat} {st' : List Value} {x0 x1 : va_E} (ha : ω a = some x0) (h : ∀ (p : Program) (e : Env) (R : Room) (s : State) (m : MethodId) (args : Array Value) (below : List Frame) (meth : Method) (c : Code) (H : Heap) (locs : List Loc) (cells slots : Nat) (Q : State → Prop) (ls : Array Slot), g_C Θ y cc nL ret d tab p R s m args meth c → va_at (gD Θ) vwCl (a, x0) H → lv_has ls nL lv →
      (∀ (H1 : Heap) (L : List Loc), (∀ q ∈ L, q.base = a) → va_at (gD Θ) vwCl (a, x1) H1 → H1.size = H.size → (∀ q : Nat, q ≠ a → H1[q]? = H[q]?) → W p (gl Θ) e R s m args below meth c H1 (locs ++ L) cells slots Q (F0 m pc' ls st')) → W p (gl Θ) e R s m args below meth c H locs cells slots Q (F0 m pc ls st))
    (K : G Θ y cc nL ret d tab Qv Qx B pc' lv st' (g_upd ω a x1) n) : G Θ y cc nL ret d tab Qv Qx B pc lv st ω n := by
  intro p e R s m args below meth c H locs cells slots mc ms ls hC hS hl
  obtain ⟨q1, q2, q3, q4, q5, q6, q7⟩ := hS
  obtain ⟨ws, j, hj, hL, hP, hD⟩ := q5.get ha
  refine h p e R s m args below meth c H locs cells slots _ ls hC (hP j _ hj) hl (fun H1 L e0 e1 z oq => ?_)
  have hA : gA Θ a := hD.2 j _ hj
  refine K p e R s m args below meth c H1 (locs ++ L) cells slots mc ms ls hC ⟨q1, q2, q3, q4, ⟨_, hL.set hD hj x1, hP.set hD hj e1 oq, hD.set hj⟩, z.trans q6, ?_⟩ hl
  refine ⟨by rw [z]; exact q7.1, fun q g1 g2 => ?_, fun q hq => ?_⟩
  · rw [oq q (fun e => g2 (by rw [e]; exact hA))]
    exact q7.2.1 q g1 g2
  · rcases List.mem_append.mp hq with h1 | h1
    · exact q7.2.2 q h1
    · rw [e0 q h1]; exact hA
theorem g_put {index ci k a : Nat} {ty : FieldType} {fs fs' : List Value} {v : Value} (F : g_Fl y.cls index ci k ty false) (hd : decode cc pc = .ok (.putfield index, 3)) (ha : ω a = some (.inr (ci, fs))) (hkl : k < fs.length) (hn : narrow ty v = v) (hft : fits ty v = true) (hfs : fs.set k v = fs')
    (K : G Θ y cc nL ret d tab Qv Qx B (pc + 3) lv st (g_upd ω a (.inr (ci, fs'))) n) : G Θ y cc nL ret d tab Qv Qx B pc lv (v :: .ref a :: st) ω n := by
  obtain ⟨C, T, N, ty0, ⟨c1, c2, c3, c4⟩, hk, hl, hC, rfl, hfin⟩ := F
  subst hfs
  refine G.write ha (fun p e R s m args below meth c H locs cells slots Q ls hC0 hat hlv kk => ?_) K
  have hts := hC0.2.2.2.2.2.1
  have hown := hC0.2.2.2.2.1
  have hK := hC0.2.2.2.2.2.2.2.2.2.2.1.1
  have hap := va_apart (own := y.cls) hts c2 ty0 c3 c4 hK c1
  obtain ⟨r, h1, cell, q1, q2, q3, q4⟩ := hat
  have hr : r = (C, T, N) := Option.some.inj (h1.symm.trans c1)
  subst hr
  obtain ⟨hS, hfc, kC, hkC, hkind⟩ := hK.1 ci _ c1
  obtain ⟨cf, kf, fi, f, hi, hsl⟩ := hS k hk
  have hlay := hts _ (c2 _ (u_in_lay hk))
  unfold u_lay at hlay
  rw [if_neg (by rw [hfin]; decide)] at hlay
  have hst := (u_facts hfc hkC (u_lays hts c2 hk) hi).1
  have h6 := u_store hfc hkC hkind hlay hi (c3 k hk) hn hft
  have hi' := hi
  rw [hC] at hi'
  refine W.putK hC0.1 hC0.2.1 (f := f) ⟨hown, hts _ hl, ⟨_, _, _, hi'⟩, hst⟩ (by rw [q2]; exact h6) q1 q3 (by rw [hsl]; exact k2_hasslot (q4 k hk)) rfl rfl hd fun H' e1 e2 e3 => ?_
  rw [hsl] at e1 ⊢
  exact kk H' _ (fun q hq => by rw [List.mem_singleton.mp hq]) ⟨_, c1, t_OB.to (V := updV (vp_V fs) k v) ⟨_, e1, q2, q3, t_set q4 hap hk v⟩ (fun j _ => vp_updV_set hkl v j)⟩ e2 e3
/-- a final field, in a constructor of its class -/
theorem g_putF {index ci k a : Nat} {ty : FieldType} {fs fs' : List Value} {v : Value} (F : g_Fl y.cls index ci k ty true) (hin : y.name = "<init>") (hdecl : ∀ C T N, vwCl[ci]? = some (C, T, N) → C = y.cls) (hd : decode cc pc = .ok (.putfield index, 3)) (ha : ω a = some (.inr (ci, fs))) (hkl : k < fs.length) (hn : narrow ty v = v) (hft : fits ty v = true) (hfs : fs.set k v = fs')
    (K : G Θ y cc nL ret d tab Qv Qx B (pc + 3) lv st (g_upd ω a (.inr (ci, fs'))) n) : G Θ y cc nL ret d tab Qv Qx B pc lv (v :: .ref a :: st) ω n := by
  obtain ⟨C, T, N, ty0, ⟨c1, c2, c3, c4⟩, hk, hl, hC, rfl, hfin⟩ := F
  subst hfs
  refine G.write ha (fun p e R s m args below meth c H locs cells slots Q ls hC0 hat hlv kk => ?_) K
  have hts := hC0.2.2.2.2.2.1
  have hown := hC0.2.2.2.2.1
  have hK := hC0.2.2.2.2.2.2.2.2.2.2.1.1
  have hap := va_apart (own := y.cls) hts c2 ty0 c3 c4 hK c1
  obtain ⟨r, h1, cell, q1, q2, q3, q4⟩ := hat
  have hr : r = (C, T, N) := Option.some.inj (h1.symm.trans c1)
  subst hr
  obtain ⟨hS, hfc, kC, hkC, hkind⟩ := hK.1 ci _ c1
  obtain ⟨cf, kf, fi, f, hi, hsl⟩ := hS k hk
  have hlay := hts _ (c2 _ (u_in_lay hk))
  unfold u_lay at hlay
  rw [if_pos hfin] at hlay
  have hst := (u_facts hfc hkC (u_lays hts c2 hk) hi).1
  have hcf : m.cls = cf := by
    obtain ⟨_, _, c', _, _, _, -, -, hf', -, -, -, hown2, -⟩ := Cond.laysFinal_spec hlay
    have e1 : c' = cf := by have := hi.symm.trans hf'; simp at this; exact this.1.symm
    rw [hC, hdecl C T N c1] at hown2
    rw [← e1]; exact Option.some.inj (hown.symm.trans hown2)
  have h6 := u_fits hfc hkC hkind (Or.inr hlay) hi (c3 k hk) hn hft
  have hi' := hi
  rw [hC] at hi'
  refine W.putFinK hC0.1 hC0.2.1 hown (hts _ hl) hi' hst hcf (hC0.2.2.2.2.2.2.2.2.2.2.2.2.trans hin) (by rw [q2]; exact h6) q1 q3 (by rw [hsl]; exact k2_hasslot (q4 k hk)) rfl rfl hd fun H' e1 e2 e3 => ?_
  rw [hsl] at e1 ⊢
  exact kk H' _ (fun q hq => by rw [List.mem_singleton.mp hq]) ⟨_, c1, t_OB.to (V := updV (vp_V fs) k v) ⟨_, e1, q2, q3, t_set q4 hap hk v⟩ (fun j _ => vp_updV_set hkl v j)⟩ e2 e3
end G4
