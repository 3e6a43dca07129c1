def bz (x : Int32) (k : RO) : RO := if x = 0 ∨ x = 1 then k else none
def nz (x : Int32) (k : RO) : RO := if x = 0 then none else k
def nzl (x : Int64) (k : RO) : RO := if x = 0 then none else k
theorem bz_inv {x : Int32} {k : RO} {r : Out} (h : bz x k = some r) : narrow .boolean (.int x) = .int x ∧ k = some r := by
  unfold bz at h
  split at h
  · rename_i hc
    rcases hc with rfl | rfl
    · exact ⟨rfl, h⟩
    · exact ⟨rfl, h⟩
  · cases h
theorem bz_invF {x : Int32} {k : RO} {r : Out} (h : bz x k = some r) : narrow .boolean (.int x) = .int x ∧ fits .boolean (.int x) = true ∧ k = some r := by
  unfold bz at h
  split at h
  · rename_i hc
    rcases hc with rfl | rfl
    · exact ⟨rfl, rfl, h⟩
    · exact ⟨rfl, rfl, h⟩
  · cases h
theorem nz_inv {x : Int32} {k : RO} {r : Out} (h : nz x k = some r) : ¬ x = 0 ∧ k = some r := by
  unfold nz at h
  split at h
  · cases h
  · exact ⟨by assumption, h⟩
theorem nzl_inv {x : Int64} {k : RO} {r : Out} (h : nzl x k = some r) : ¬ x = 0 ∧ k = some r := by
  unfold nzl at h
  split at h
  · cases h
  · exact ⟨by assumption, h⟩
theorem ne_toInt {x k : Int32} (h : ¬ x = k) {z : Int} (hz : k.toInt = z) : x.toInt ≠ z := fun e => h (Int32.toInt_inj.mp (e.trans hz.symm))
theorem g_T_or {ws : List Cond} (h : ws.all (fun w => (decide (w ∈ lw_tbl) && goodWord w) || decide (w ∈ g_N)) = true) : ∀ w ∈ ws, w ∈ g_T ∨ w ∈ g_N := by
  intro w hw
  have h1 := List.all_eq_true.mp h w hw
  simp only [Bool.or_eq_true, Bool.and_eq_true, decide_eq_true_eq] at h1
  rcases h1 with h1 | h1
  · exact Or.inl (g_T_in h1.1 h1.2)
  · exact Or.inr h1
theorem vx_ots {ws : List Cond} (h : ws.all vx_ot = true) : ∀ w ∈ ws, vx_ot w = true := fun w hw => List.all_eq_true.mp h w hw
theorem th_X10_125_129 : g_Th RX10 125 129 "java/lang/IllegalArgumentException" := ⟨by decide +kernel, wd_877, wd_128, g_T_or (by decide +kernel), vx_ots (by decide +kernel)⟩
theorem th_X10_135_139 : g_Th RX10 135 139 "java/lang/UnsupportedOperationException" := ⟨by decide +kernel, wd_947, wd_129, g_T_or (by decide +kernel), vx_ots (by decide +kernel)⟩
theorem th_X10_262_266 : g_Th RX10 262 266 "java/lang/IllegalStateException" := ⟨by decide +kernel, wd_1133, wd_138, g_T_or (by decide +kernel), vx_ots (by decide +kernel)⟩
theorem th_X10_416_420 : g_Th RX10 416 420 "java/lang/IndexOutOfBoundsException" := ⟨by decide +kernel, wd_1053, wd_136, g_T_or (by decide +kernel), vx_ots (by decide +kernel)⟩
section GF
variable {Θ : GP} {y : MethodName} {cc : ByteArray} {nL : Nat} {ret : Option FieldType} {d : Nat} {tab : List ExceptionTableEntry} {Qv : Option Value → OW → Nat → Prop} {Qx : String → OW → Nat → Prop} {B : Nat × Nat} {pc : Nat} {lv : List (Nat × Value)} {st : List Value} {ω : OW} {n : Nat}
theorem g_lcmp {x z : Int64} (hd : decode cc pc = .ok (.lcmp, 1)) (k : G Θ y cc nL ret d tab Qv Qx B (pc + 1) lv (.int (lg_cmp x z) :: st) ω n) : G Θ y cc nL ret d tab Qv Qx B pc lv (.long z :: .long x :: st) ω n := G.pure (fun _ _ _ _ _ _ _ _ _ _ _ _ _ _ _ hx hb hl kk => W.lcmp hx hb hd (kk _ hl)) k
end GF
