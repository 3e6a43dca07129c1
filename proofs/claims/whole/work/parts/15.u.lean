theorem wd_984 : Cond.methodLink RJ7 316 ⟨"[I", "clone", "()Ljava/lang/Object;"⟩ ∈ g_T := g_T_ix 984 (by decide +kernel) rfl
theorem wd_985 : Cond.sameMethod "[I" "java/lang/Object" "clone" "()Ljava/lang/Object;" ∈ g_T := g_T_ix 985 (by decide +kernel) rfl
theorem wd_986 : Cond.native ⟨"java/lang/Object", "clone", "()Ljava/lang/Object;"⟩ ∈ g_T := g_T_ix 986 (by decide +kernel) rfl
theorem wd_987 : Cond.instanceMethod ⟨"java/lang/Object", "clone", "()Ljava/lang/Object;"⟩ ∈ g_T := g_T_ix 987 (by decide +kernel) rfl
theorem wd_988 : Cond.selects "[I" ⟨"[I", "clone", "()Ljava/lang/Object;"⟩ ⟨"java/lang/Object", "clone", "()Ljava/lang/Object;"⟩ ∈ g_T := g_T_ix 988 (by decide +kernel) rfl
section GU
variable {Θ : GP} {y : MethodName} {cc : ByteArray} {nL : Nat} {ret : Option FieldType} {d : Nat} {tab : List ExceptionTableEntry} {Qv : Option Value → OW → Nat → Prop} {Qx : String → OW → Nat → Prop} {B : Nat × Nat} {pc : Nat} {lv : List (Nat × Value)} {st : List Value} {ω : OW} {n : Nat}
/-- a.clone() of an int row -/
theorem g_clone {a len : Nat} {f : Nat → Int32} (hy : y.cls = RJ7) (hd : decode cc pc = .ok (.invokevirtual 316, 3)) (ha : ω a = some (.inl (gI Θ, len, .inl f))) (hdep : 1 ≤ d) (hB1 : 1 ≤ B.1) (hB2 : len ≤ B.2) (hcat : (st.map fun v => v.category).sum ≤ 8)
    (K : G Θ y cc nL ret d tab Qv Qx (B.1 - 1, B.2 - len) (pc + 3) lv (.ref n :: st) (g_upd ω n (.inl (gI Θ, len, .inl f))) (n + 1)) : G Θ y cc nL ret d tab Qv Qx B pc lv (.ref a :: st) ω n := by
  intro p e R s m args below meth c H locs cells slots mc ms ls hC hS hlv
  have hS9 := hS
  obtain ⟨q1, q2, q3, q4, q5, q6, q7⟩ := hS9
  obtain ⟨ws, j, hj, hL, hP, hD⟩ := q5.get ha
  have hts := hC.2.2.2.2.2.1
  have hfr := hC.2.2.2.2.2.2.2.2.1
  have hlo := hC.2.2.2.2.2.2.2.2.2.1
  have hown := hC.2.2.2.2.1
  rw [hy] at hown
  have hK := hC.sf.1
  have ht : (gty Θ)[0]? = some (gI Θ, .int) := g_ty hC rfl
  have hnm : s.vm.findClass "[I" = some (gI Θ) := (hK.2 0 _ ht).2
  have hcl : va_Nw (.castable "[I" "java/lang/Cloneable") s := hC.sf.2.2.2.2.2.2.1 _ (by decide +kernel)
  obtain ⟨c0, t0', f1, f2, f3⟩ := Cond.castable_spec (va_Nw.use (A := args) rfl hcl)
  cases hnm.symm.trans f1
  have hno : ω n = none := by rw [← q6]; exact q5.none
  have hb : gb Θ ≤ s.heap.size := hC.sf.2.2.2.2.2.1
  subst q6
  have hA : gA Θ H.size := by
    show gb Θ ≤ H.size
    have := q7.1
    omega
  intro T hT X
  have hcellT : T.heap[a]? = some (vp_cell (gI Θ) (len, .inl f)) := by rw [hT]; exact hP j _ hj
  have hsz : (vp_cell (gI Θ) (len, .inl f)).slots.size = len := arrV_size _ _ _
  obtain ⟨-, kA, hkA, comp, hkind⟩ := State.isArrayOf_alike X.warmed.alike ((hK.2 0 _ ht).1 0 (fun _ => .null))
  obtain ⟨-, kS, hkS, compS, hkindS⟩ := (hK.2 0 _ ht).1 0 (fun _ => .null)
  obtain ⟨vm', X', st9⟩ := X.cloneArray hC.1 hown (hts _ wd_984) (hts _ wd_985) (hts _ wd_986) (hts _ wd_987) (hts _ wd_988) (a := a) (cell := vp_cell (gI Θ) (len, .inl f)) hcellT (fun k h => by cases h) (fun h => by cases h) hnm f2 f3
    (fun i v hv => by
      have hk' : T.vm.classes[gI Θ]? = some kA := hkA
      have hf : fits .int v = true := by
        rcases Nat.lt_or_ge i len with hi | hi
        · have : (vp_cell (gI Θ) (len, .inl f)).slots[i]? = some (.int (f i)) := arrV_read _ _ hi
          rw [this] at hv
          cases hv
          rfl
        · rw [Array.getElem?_eq_none (by rw [hsz]; exact hi)] at hv
          cases hv
      simpa [State.fitsSlot, State.slotType?, hk', hkind, vp_cell, arrV] using hf)
    (g := F0 m pc ls (.ref a :: st)) rfl (by rw [hC.2.2.2.1]; exact hlv.1) rfl (by rw [hC.2.1]; exact hd) (by omega) (by show 2 * 0 + _ + 14 ≤ _; omega) (by omega) (by rw [hsz]; omega) (hloader := Vm.clonesLoader_of_array hkS hkindS)
  have hcellE : ({ cls := (vp_cell (gI Θ) (len, .inl f)).cls, slots := (vp_cell (gI Θ) (len, .inl f)).slots } : Cell) = vp_cell (gI Θ) (len, .inl f) := rfl
  rw [hcellE, hsz] at X'
  generalize hH1 : H.push (vp_cell (gI Θ) (len, .inl f)) = H1
  have z1 : H1.size = H.size + 1 := by rw [← hH1, Array.size_push]
  have e1 : H1[H.size]? = some (vp_cell (gI Θ) (len, .inl f)) := by rw [← hH1, Array.getElem?_push_size]
  have o1 : ∀ q : Nat, q < H.size → H1[q]? = H[q]? := fun q hq => by rw [← hH1, Array.getElem?_push, if_neg (Nat.ne_of_lt hq)]
  have hk : ∀ (k : Nat) (y : Nat × va_E), ws[k]? = some y → H1[y.1]? = H[y.1]? := fun k y hy => o1 y.1 ((hP k y hy).lt)
  obtain ⟨t, b1, b2⟩ := K p e R s m args below meth c H1 locs (cells + 1) (slots + len) mc ms ls hC ⟨by show cells + 1 + (B.1 - 1) ≤ mc; omega, by show slots + len + (B.2 - len) ≤ ms; omega, q3, q4, ⟨ws ++ [(H.size, .inl (gI Θ, len, .inl f))], hL.push hno _, (hP.kept hk).app (fun k y hy => by
      have hz : k < 1 := (List.getElem?_eq_some_iff.mp hy).1
      rw [show k = 0 by omega] at hy
      cases hy
      exact e1), hD.push hP rfl hA⟩, z1, ⟨Nat.le_trans q7.1 (by omega), fun q g1 g2 => (o1 q (Nat.lt_of_lt_of_le g1 q7.1)).trans (q7.2.1 q g1 g2), q7.2.2⟩⟩ hlv ((T.setVm vm').pushCell (vp_cell (gI Θ) (len, .inl f))) (by rw [← hH1, ← hT]; rfl) X'
  refine ⟨t, st9 t ?_, b2⟩
  rw [hcellE, hT]
  exact b1
theorem g_cast {index a len : Nat} {f : Nat → Int32} (hl : Cond.classLink y.cls index "[I" ∈ g_T) (hd : decode cc pc = .ok (.checkcast index, 3)) (ha : ω a = some (.inl (gI Θ, len, .inl f)))
    (K : G Θ y cc nL ret d tab Qv Qx B (pc + 3) lv (.ref a :: st) ω n) : G Θ y cc nL ret d tab Qv Qx B pc lv (.ref a :: st) ω n := by
  refine G.pureC (fun p e R s m args below meth c H locs cells slots Q ls hC0 hS hH hlv kk => ?_) K
  obtain ⟨ws, j, hj, -, hP, -⟩ := hH.get ha
  have ht : (gty Θ)[0]? = some (gI Θ, .int) := g_ty hC0 rfl
  exact va_castA hC0.1 hC0.2.1 hC0.2.2.2.2.1 (hC0.2.2.2.2.2.1 _ hl) hP j hj (hC0.sf.1.2 0 _ ht).2 hd (kk _ hlv)
end GU
/-- Arrays.copyOf of ints, of at most 500 -/
def F_J7_copyOf_59c91 (Θ : GP) (l0 : Nat) (l1 : Int32) (ω : OW) (n : Nat) : RO := match ω l0 with
  | some (.inl (c, len, .inl f)) => if c = gI Θ ∧ ¬ l1 < 0 ∧ len ≤ 500 ∧ l1.toNatClampNeg ≤ 500 ∧ l0 ≠ n then
      (if l1 = Int32.ofNat len then some (.inl (some (.ref n), g_upd ω n (.inl (gI Θ, len, .inl f)), n + 1))
       else some (.inl (some (.ref n), g_upd (g_upd ω n (.inl (gI Θ, l1.toNatClampNeg, .inl (fun _ => 0)))) n (.inl (gI Θ, l1.toNatClampNeg, .inl (va_cpy f (fun _ => 0) 0 0 (if l1 < Int32.ofNat len then l1 else Int32.ofNat len).toNatClampNeg))), n + 1)))
      else none
  | _ => none
theorem ok_J7_copyOf_59c91 (Θ : GP) (l0 : Nat) (l1 : Int32) (ω : OW) (n : Nat) : Ok Θ 2 1 500 yJ7_copyOf_59c91 cJ7_copyOf_59c91 3 (some (.array .int)) [.ref l0, .int l1] ω n (F_J7_copyOf_59c91 Θ l0 l1 ω n) := by
  refine Ok.of (by decide +kernel) (Nat.le_of_ble_eq_true rfl) (fun r h => ?_)
  unfold F_J7_copyOf_59c91 at h
  show GR Θ yJ7_copyOf_59c91 cJ7_copyOf_59c91 3 (some (.array .int)) 2 (1, 500) 0 [(0, .ref l0), (1, .int l1)] [] ω n r
  split at h
  · rename_i c len f ha
    split at h
    · rename_i hc
      obtain ⟨rfl, hn, hl5, hk5, hne⟩ := hc
      refine g_iload_n dJ7_copyOf_59c91_0 rfl 1 rfl ?_
      refine g_aload_n dJ7_copyOf_59c91_1 rfl 0 rfl ?_
      refine g_alen (k := 0) dJ7_copyOf_59c91_2 ha rfl rfl ?_
      refine g_icmp_ne (tgt := 14) dJ7_copyOf_59c91_3 (by decide) (fun c1 => ?_) (fun c1 => ?_)
      · rw [if_neg c1] at h
        cases h
        refine g_iload_n dJ7_copyOf_59c91_14 rfl 1 rfl ?_
        refine g_newarr (t0 := 0) (N' := l1.toNatClampNeg) (a0 := (l1.toNatClampNeg, .inl (fun _ => 0))) dJ7_copyOf_59c91_15 rfl wd_175 rfl (fun _ q => q) (fun _ => rfl) hn rfl (by show _ * 4 ≤ _; omega) (by decide) hk5 ?_
        refine G.less (B' := (0, 0)) (Nat.zero_le _) (Nat.zero_le _) ?_
        refine g_astore_n (lv' := [(2, .ref n), (0, .ref l0), (1, .int l1)]) dJ7_copyOf_59c91_17 rfl (by decide) rfl ?_
        refine g_aload_n dJ7_copyOf_59c91_18 rfl 1 rfl ?_
        refine g_iconst (v := 0) dJ7_copyOf_59c91_19 (by decide) ?_
        refine g_aload_n dJ7_copyOf_59c91_20 rfl 0 rfl ?_
        refine g_iconst (v := 0) dJ7_copyOf_59c91_21 (by decide) ?_
        refine g_aload_n dJ7_copyOf_59c91_22 rfl 1 rfl ?_
        have ha1 : g_upd ω n (.inl (gI Θ, l1.toNatClampNeg, .inl (fun _ => 0))) l0 = some (.inl (gI Θ, len, .inl f)) := (g_upd_ne _ _ hne).trans ha
        refine g_alen (k := 0) dJ7_copyOf_59c91_23 ha1 rfl rfl ?_
        refine g_iload_n dJ7_copyOf_59c91_24 rfl 2 rfl ?_
        refine g_min wd_991 wd_617 wd_135 wd_618 dJ7_copyOf_59c91_25 (by decide) (Nat.le_of_ble_eq_true rfl) ?_
        obtain ⟨j, hj, rfl⟩ := nI_of hn
        rw [nI_clamp hj] at hk5
        have hL : (Int32.ofNat len) = nI len := rfl
        have hmin : ∃ k : Nat, (if nI j < Int32.ofNat len then nI j else Int32.ofNat len) = nI k ∧ k ≤ len ∧ k ≤ j := by
          rw [hL]
          by_cases hjl : j < len
          · exact ⟨j, if_pos (nI_lt hjl (by omega)), by omega, Nat.le_refl _⟩
          · exact ⟨len, if_neg (nI_nlt (by omega) hj), Nat.le_refl _, by omega⟩
        obtain ⟨k, hk, hk1, hk2⟩ := hmin
        rw [hk]
        refine g_copyi wd_992 wd_580 wd_579 wd_124 dJ7_copyOf_59c91_28 ha1 (g_upd_same _ _ _) (by decide) (by decide) (nI_pos (by omega)) (by rw [nI_clamp (by omega)]; show 0 + k ≤ len; omega) (by rw [nI_clamp (by omega), nI_clamp hj]; show 0 + k ≤ j; omega) (by decide) (Nat.le_of_ble_eq_true rfl) ?_
        refine g_aload_n dJ7_copyOf_59c91_31 rfl 0 rfl ?_
        exact g_aret rfl (Or.inr ⟨_, rfl⟩) dJ7_copyOf_59c91_32 rfl
      · rw [if_pos c1] at h
        cases h
        refine g_aload_n dJ7_copyOf_59c91_6 rfl 0 rfl ?_
        refine g_clone rfl dJ7_copyOf_59c91_7 ha (by decide) (by decide) hl5 (Nat.le_of_ble_eq_true rfl) ?_
        refine G.less (B' := (0, 0)) (Nat.zero_le _) (Nat.zero_le _) ?_
        refine g_cast wd_990 dJ7_copyOf_59c91_10 (g_upd_same _ _ _) ?_
        exact g_aret rfl (Or.inr ⟨_, rfl⟩) dJ7_copyOf_59c91_13 rfl
    · cases h
  · cases h
section GV
variable {Θ : GP} {y : MethodName} {cc : ByteArray} {nL : Nat} {ret : Option FieldType} {d : Nat} {B : Nat × Nat} {pc : Nat} {lv : List (Nat × Value)} {st : List Value} {ω : OW} {n : Nat} {r : Out}
theorem g_sA {index na d' cs' sl' nL' : Nat} {y' : MethodName} {cc' : ByteArray} {ret' : Option FieldType} {As st0 : List Value} {R : RO} {k : Nat → OW → Nat → RO} (L : g_Ms y.cls index y' cc' nL' ret' na) (hd : decode cc pc = .ok (.invokestatic index, 3))
    (hm : Ok Θ d' cs' sl' y' cc' nL' ret' As ω n R) (hna : As.length = na) (hst : st0 = As.reverse ++ st) (hcat : (st.map fun v => v.category).sum ≤ 8) (hdep : d' + 1 ≤ d) (hB1 : cs' ≤ B.1) (hB2 : sl' ≤ B.2) (h : kA R k = some r)
    (K : ∀ x ω' n', k x ω' n' = some r → GR Θ y cc nL ret d (B.1 - cs', B.2 - sl') (pc + 3) lv (.ref x :: st) ω' n' r) : GR Θ y cc nL ret d B pc lv st0 ω n r := by
  rcases kA_inv h with ⟨x, ω1, n1, e1, e2⟩ | ⟨e, e1, rfl⟩
  · refine g_callS L hd hna hst hcat (hm _ e1) hdep hB1 hB2 rfl (fun E ω' n' h => by cases h) ?_
    intro v ω' n' hv
    cases hv
    exact K _ _ _ e2
  · refine g_callS L hd hna hst hcat (hm _ e1) hdep hB1 hB2 rfl (fun E ω' n' h => h) ?_
    intro v ω' n' hv
    cases hv
end GV
