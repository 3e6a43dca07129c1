/-! The law's own body: one walk over the script; what class and reference must do alike at each call stands in stI, stV, stW, stU. -/
def Fr (ω : OW) (n : Nat) : Prop := ∀ (a : Nat) (q : va_E), ω a = some q → a < n
def isO (ω : OW) (a ci : Nat) : Prop := ∃ fs, ω a = some (.inr (ci, fs))
def bI (v : Int32) : Int32 := if v = 0 then 0 else 1
def stI (x m : Nat) (FX FM : OW → Nat → RO) (Inv : OW → Prop) (ω : OW) : Prop := ∀ n, Fr ω n → isO ω x 10 ∧ ∃ v ω1 n1, FX ω n = some (.inl (some (.int v), ω1, n1)) ∧ ∀ n2, Fr ω1 n2 → isO ω1 m 11 ∧ ∃ ω2 n3, FM ω1 n2 = some (.inl (some (.int v), ω2, n3)) ∧ Inv ω2
def stV (x m : Nat) (FX FM : OW → Nat → RO) (Inv : OW → Prop) (ω : OW) : Prop := ∀ n, Fr ω n → isO ω x 10 ∧ ∃ ω1 n1, FX ω n = some (.inl (none, ω1, n1)) ∧ ∀ n2, Fr ω1 n2 → isO ω1 m 11 ∧ ∃ ω2 n3, FM ω1 n2 = some (.inl (none, ω2, n3)) ∧ Inv ω2
def stW (Θ : GP) (m o : Nat) (WX : OW → Nat → Option (Int32 × OW)) (FM : OW → Nat → RO) (Inv : OW → Prop) (ω : OW) : Prop := ∀ n, Fr ω n → ∃ k ω1, WX ω n = some (k, ω1) ∧ ∀ n2, Fr ω1 n2 → isO ω1 m 11 ∧ ∃ b ω2 n3, FM ω1 n2 = some (.inl (some (.int b), ω2, n3)) ∧ isO ω2 m 11 ∧ (∀ n4, F_X11_thrown Θ m ω2 n4 = some (.inl (some (.int k), ω2, n4))) ∧ (k = 0 → ∃ f, ω2 o = some (.inl (gJ Θ, 1, .inr (.inl f))) ∧ f 0 = b.toInt64) ∧ Inv ω2
def stU (Θ : GP) (m : Nat) (WX : OW → Nat → Option (Int32 × OW)) (FM : OW → Nat → RO) (Inv : OW → Prop) (ω : OW) : Prop := ∀ n, Fr ω n → ∃ k ω1, WX ω n = some (k, ω1) ∧ ∀ n2, Fr ω1 n2 → isO ω1 m 11 ∧ ∃ ω2 n3, FM ω1 n2 = some (.inl (none, ω2, n3)) ∧ isO ω2 m 11 ∧ (∀ n4, F_X11_thrown Θ m ω2 n4 = some (.inl (some (.int k), ω2, n4))) ∧ Inv ω2
theorem lg_cmp_self (x : Int64) : lg_cmp x x = 0 := by
  unfold lg_cmp
  simp
section GM
variable {Θ : GP} {y : MethodName} {cc : ByteArray} {nL : Nat} {ret : Option FieldType} {d : Nat} {tab : List ExceptionTableEntry} {Qv : Option Value → OW → Nat → Prop} {Qx : String → OW → Nat → Prop} {B : Nat × Nat} {pc : Nat} {lv : List (Nat × Value)} {st : List Value} {ω : OW} {n : Nat}
theorem G.fr (k : Fr ω n → G Θ y cc nL ret d tab Qv Qx B pc lv st ω n) : G Θ y cc nL ret d tab Qv Qx B pc lv st ω n := by
  intro p e R s m args below meth c H locs cells slots mc ms ls hC hS hl
  exact k (fun a q hq => by rw [← hS.2.2.2.2.2.1]; exact hS.2.2.2.2.1.lt hq) p e R s m args below meth c H locs cells slots mc ms ls hC hS hl
theorem g_slen {b L : Nat} {xs : Nat → Int32} (hX : gX Θ = some (b, L, xs)) (hd : decode cc pc = .ok (.arraylength, 1)) (k : G Θ y cc nL ret d tab Qv Qx B (pc + 1) lv (.int (nI L) :: st) ω n) : G Θ y cc nL ret d tab Qv Qx B pc lv (.ref b :: st) ω n :=
  G.pureC (fun _ _ _ s _ _ _ _ _ _ _ _ _ _ _ hC hS _ hl kk => by
    obtain ⟨h1, h2, h3⟩ := hC.sf.2.2.2.2.2.2.2.2.2.2.2.1 _ hX
    exact va_slen hC.1 hC.2.1 h1 h3 (fun z => absurd h2 (Nat.not_lt.mpr z)) hS hd (kk _ hl)) k
theorem g_sld {b L j : Nat} {xs : Nat → Int32} {i : Int32} (hX : gX Θ = some (b, L, xs)) (hd : decode cc pc = .ok (.iaload, 1)) (hi : i = nI j) (hj : j < L) (hL : L < 2 ^ 31) (k : G Θ y cc nL ret d tab Qv Qx B (pc + 1) lv (.int (xs j) :: st) ω n) : G Θ y cc nL ret d tab Qv Qx B pc lv (.int i :: .ref b :: st) ω n := by
  subst hi
  refine G.pureC (fun _ _ _ s _ _ _ _ _ _ _ _ _ _ _ hC hS _ hl kk => ?_) k
  obtain ⟨h1, h2, h3⟩ := hC.sf.2.2.2.2.2.2.2.2.2.2.2.1 _ hX
  refine va_sld hC.1 hC.2.1 h1 h3 (fun z => absurd h2 (Nat.not_lt.mpr z)) hS (nI_in hj hL) hd ?_
  rw [nI_clamp (by omega)]
  exact kk _ hl
/-- script[i + k] -/
theorem g_scr {b L i k : Nat} {xs : Nat → Int32} {kk : Int} {q : Fin 4} {li j0 j4 : Nat} (hX : gX Θ = some (b, L, xs)) (d1 : decode cc pc = .ok (.aload_n q, 1)) (d2 : decode cc (pc + 1) = .ok (.iload li, 2)) (d3 : decode cc (pc + 3) = .ok (.iconst kk, 1)) (d4 : decode cc (pc + 4) = .ok (.iadd, 1)) (d5 : decode cc (pc + 5) = .ok (.iaload, 1))
    (h0 : lv[j0]? = some ((q : Nat), .ref b)) (h4 : lv[j4]? = some (li, .int (nI i))) (hk : Int32.ofInt kk = nI k) (hj : i + k < L) (hL : L < 2 ^ 31) (K : G Θ y cc nL ret d tab Qv Qx B (pc + 6) lv (.int (xs (i + k)) :: st) ω n) : G Θ y cc nL ret d tab Qv Qx B pc lv st ω n := by
  refine g_aload_n d1 rfl j0 h0 ?_
  refine g_iload d2 j4 h4 ?_
  refine g_iconst d3 hk ?_
  refine g_iadd d4 ?_
  exact g_sld hX d5 (nI_add i k) hj hL K
/-- x != 0, as a number -/
theorem g_bx {v : Int32} {o1 o2 : Int} (d1 : decode cc pc = .ok (.ifCond .eq o1, 3)) (d2 : decode cc (pc + 3) = .ok (.iconst 1, 1)) (d3 : decode cc (pc + 4) = .ok (.goto o2, 3)) (d4 : decode cc (pc + 7) = .ok (.iconst 0, 1)) (h1 : o1 = 7) (h2 : o2 = 4) (K : G Θ y cc nL ret d tab Qv Qx B (pc + 8) lv (.int (bI v) :: st) ω n) : G Θ y cc nL ret d tab Qv Qx B pc lv (.int v :: st) ω n := by
  subst h1 h2
  refine g_if_eq (tgt := pc + 7) d1 (by omega) (fun c => ?_) (fun c => ?_)
  · refine g_iconst d4 rfl ?_
    unfold bI at K
    rw [if_pos c] at K
    exact K
  · refine g_iconst d2 rfl ?_
    refine g_goto (tgt := pc + 8) d3 (by omega) ?_
    unfold bI at K
    rw [if_neg c] at K
    exact K
/-- a call that throws nothing, its result told -/
theorem g_cvI {index na ci a d' cs' sl' nL' N : Nat} {C : String} {T : u_T} {y' : MethodName} {cc' : ByteArray} {ret' : Option FieldType} {As st0 : List Value} {F : RO} {v : Option Value} {ω1 : OW} {n1 : Nat} (L : g_Mv y.cls index C y' cc' nL' ret' na) (hd : decode cc pc = .ok (.invokevirtual index, 3)) (hc : vwCl[ci]? = some (C, T, N)) (ha : isO ω a ci)
    (hna : As.length = na) (hst : st0 = As.reverse ++ .ref a :: st) (hcat : (st.map fun v => v.category).sum ≤ 8) (hm : Ok Θ d' cs' sl' y' cc' nL' ret' (.ref a :: As) ω n F) (hF : F = some (.inl (v, ω1, n1))) (hdep : d' + 1 ≤ d) (hB1 : cs' ≤ B.1) (hB2 : sl' ≤ B.2)
    (K : G Θ y cc nL ret d tab Qv Qx (B.1 - cs', B.2 - sl') (pc + 3) lv (v.toList ++ st) ω1 n1) : G Θ y cc nL ret d tab Qv Qx B pc lv st0 ω n := by
  obtain ⟨fs, ha⟩ := ha
  refine g_callVT L hd hc ha hna hst hcat (hm _ hF) hdep hB1 hB2 (fun E ω' n' hq => by cases hq) ?_
  intro v' ω' n' hv
  cases hv
  exact K
/-- a wrapper's call -/
theorem g_cw {index na d' cs' sl' nL' : Nat} {y' : MethodName} {cc' : ByteArray} {ret' : Option FieldType} {hh : List (Nat × Nat × Nat × Nat)} {As st0 : List Value} {k : Int32} {ω1 : OW} (L : g_Mw y.cls index y' cc' nL' ret' hh na) (hd : decode cc pc = .ok (.invokestatic index, 3))
    (hna : As.length = na) (hst : st0 = As.reverse ++ st) (hcat : (st.map fun v => v.category).sum ≤ 8) (hm : ConW Θ d' cs' sl' y' cc' nL' ret' hh As ω n (qw k ω1)) (hdep : d' + 1 ≤ d) (hB1 : cs' ≤ B.1) (hB2 : sl' ≤ B.2)
    (K : ∀ n', G Θ y cc nL ret d tab Qv Qx (B.1 - cs', B.2 - sl') (pc + 3) lv (.int k :: st) ω1 n') : G Θ y cc nL ret d tab Qv Qx B pc lv st0 ω n := by
  refine g_callSW L hd hna hst hcat hm hdep hB1 hB2 ?_
  rintro v ω' n' ⟨rfl, rfl⟩
  exact K n'
/-- behind a wrapper's call and the reference's: the marks compared -/
theorem g_cmpW {o : Nat} {k b : Int32} {j3 j5 j6 e : Nat} {o1 o2 o3 o4 : Int} (d1 : decode cc pc = .ok (.iload 5, 2)) (d2 : decode cc (pc + 2) = .ok (.if_icmp .eq o1, 3)) (d3 : decode cc (pc + 7) = .ok (.iload 5, 2)) (d4 : decode cc (pc + 9) = .ok (.ifCond .ne o2, 3)) (d5 : decode cc (pc + 12) = .ok (.aload_n 3, 1)) (d6 : decode cc (pc + 13) = .ok (.iconst 0, 1)) (d7 : decode cc (pc + 14) = .ok (.laload, 1)) (d8 : decode cc (pc + 15) = .ok (.iload 6, 2)) (d9 : decode cc (pc + 17) = .ok (.i2l, 1)) (d10 : decode cc (pc + 18) = .ok (.lcmp, 1)) (d11 : decode cc (pc + 19) = .ok (.ifCond .eq o3, 3)) (d12 : decode cc (pc + 24) = .ok (.goto o4, 3))
    (h1 : o1 = 5) (h2 : o2 = 15) (h3 : o3 = 5) (h4 : ((pc + 24 : Nat) : Int) + o4 = (e : Int)) (l3 : lv[j3]? = some (3, .ref o)) (l5 : lv[j5]? = some (5, .int k)) (l6 : lv[j6]? = some (6, .int b)) (ho : k = 0 → ∃ f, ω o = some (.inl (gJ Θ, 1, .inr (.inl f))) ∧ f 0 = b.toInt64)
    (K : G Θ y cc nL ret d tab Qv Qx B e lv [] ω n) : G Θ y cc nL ret d tab Qv Qx B pc lv [.int k] ω n := by
  subst h1 h2 h3
  refine g_iload d1 j5 l5 ?_
  refine g_icmp_eq (tgt := pc + 7) d2 (by omega) (fun _ => ?_) (fun c => absurd rfl c)
  refine g_iload d3 j5 l5 ?_
  refine g_if_ne (tgt := pc + 24) d4 (by omega) (fun _ => g_goto (tgt := e) d12 h4 K) (fun c => ?_)
  obtain ⟨f, hf, hv⟩ := ho c
  refine g_aload_n d5 rfl j3 l3 ?_
  refine g_iconst (v := 0) d6 rfl ?_
  refine g_lald d7 hf (by unfold vp_in; simp) ?_
  refine g_iload d8 j6 l6 ?_
  refine g_i2l d9 ?_
  refine g_lcmp d10 ?_
  have hz : f (0 : Int32).toNatClampNeg = f 0 := rfl
  rw [hz, hv, lg_cmp_self]
  exact g_if_eq (tgt := pc + 24) d11 (by omega) (fun _ => g_goto (tgt := e) d12 h4 K) (fun c => absurd rfl c)
end GM
