/-- the tables' words that every call keeps -/
def g_T : List Cond := lw_tbl.filter goodWord
theorem g_T_good : ∀ w ∈ g_T, goodWord w = true := fun _ h => (List.mem_filter.mp h).2
theorem g_T_in {w : Cond} (h : w ∈ lw_tbl) (hg : goodWord w = true) : w ∈ g_T := List.mem_filter.mpr ⟨h, hg⟩
theorem g_T_ix (i : Nat) {w : Cond} (h : lw_tbl[i]? = some w) (hg : goodWord w = true) : w ∈ g_T := g_T_in (List.mem_of_getElem? h) hg
theorem g_T_self {w : Cond} (h : w ∈ g_T) : GoodIn g_T (w :: g_T) := by
  intro v hv
  rcases List.mem_cons.mp hv with rfl | hv
  · exact ⟨h, good_of_word (g_T_good _ h)⟩
  · exact ⟨hv, good_of_word (g_T_good _ hv)⟩
def g_N : List Cond := [.methodLinkNest "GhostAssize" 15 yX8_init "GhostAssize", .methodLinkNest "GhostAssize" 22 yX7_init "GhostAssize", .methodLinkNest "GhostAssize$Court" 63 yX4_init "GhostAssize", .castable "java/lang/IllegalArgumentException" "java/lang/IllegalArgumentException", .castable "java/lang/IllegalStateException" "java/lang/IllegalStateException", .castable "java/lang/IndexOutOfBoundsException" "java/lang/IndexOutOfBoundsException", .castable "java/lang/UnsupportedOperationException" "java/lang/UnsupportedOperationException", .castable "java/util/NoSuchElementException" "java/util/NoSuchElementException", .declares (Bundle.initS "java/lang/RuntimeException"), .declares (Bundle.initS "java/lang/Exception"), .declares (Bundle.initS Bundle.tN), .castable "[I" "java/lang/Cloneable"]
def g_NC : List (String × String) := [("java/lang/UnsupportedOperationException", "java/lang/IllegalArgumentException"), ("java/util/NoSuchElementException", "java/lang/IndexOutOfBoundsException"), ("java/lang/IllegalArgumentException", "java/lang/IndexOutOfBoundsException"), ("java/lang/IllegalStateException", "java/lang/IndexOutOfBoundsException")]
/-- a class of the table with its words: number, name, fields, how many, types -/
def g_Cl (ci : Nat) (C : String) (T : u_T) (N : Nat) (ty0 : Nat → FieldType) : Prop := vwCl[ci]? = some (C, T, N) ∧ (∀ w ∈ u_ws C T N, w ∈ g_T) ∧ (∀ k, k < N → parseFieldDescriptor (T k).2.2.1 = some (ty0 k)) ∧ ∀ a, a < N → ∀ b, b < N → a ≠ b → (T a).2.1 ≠ (T b).2.1
/-- an entry of own's pool names the field k of class ci, of type ty, final or not -/
def g_Fl (own : String) (index ci k : Nat) (ty : FieldType) (fin : Bool) : Prop := ∃ (C : String) (T : u_T) (N : Nat) (ty0 : Nat → FieldType), g_Cl ci C T N ty0 ∧ k < N ∧ Cond.fieldLink own index C (T k).2.1 (T k).2.2.1 ∈ g_T ∧ (T k).1 = C ∧ ty0 k = ty ∧ (T k).2.2.2 = fin
/-- what a call's entry of own's pool says of an instance method -/
def g_Mv (own : String) (index : Nat) (C : String) (y' : MethodName) (cc' : ByteArray) (nL' : Nat) (ret' : Option FieldType) (na : Nat) : Prop := (y'.cls = C ∧ y'.cls ≠ "java/lang/invoke/MethodHandle" ∧ y'.cls ≠ "java/lang/invoke/VarHandle" ∧ (parseMethodDescriptor y'.desc).map (fun d => d.parameters.length) = some na) ∧ nL' ≤ 45 ∧ Cond.methodLink own index y' ∈ g_T ∧ Cond.instanceMethod y' ∈ g_T ∧ Cond.selects C y' y' ∈ g_T ∧ Cond.initialized C ∈ g_T ∧ Cond.code y' cc' nL' ret' ∈ g_T
/-- a static method's entry -/
def g_Ms (own : String) (index : Nat) (y' : MethodName) (cc' : ByteArray) (nL' : Nat) (ret' : Option FieldType) (na : Nat) : Prop := (y'.cls ≠ "java/lang/invoke/MethodHandle" ∧ y'.cls ≠ "java/lang/invoke/VarHandle" ∧ (parseMethodDescriptor y'.desc).map (fun d => d.parameters.length) = some na) ∧ nL' ≤ 45 ∧ Cond.methodLink own index y' ∈ g_T ∧ Cond.static y' ∈ g_T ∧ Cond.initialized y'.cls ∈ g_T ∧ Cond.code y' cc' nL' ret' ∈ g_T
/-- a constructor's entry -/
def g_Mi (own : String) (index : Nat) (y' : MethodName) (cc' : ByteArray) (nL' : Nat) (na : Nat) : Prop := (y'.cls ≠ "java/lang/invoke/MethodHandle" ∧ y'.cls ≠ "java/lang/invoke/VarHandle" ∧ (parseMethodDescriptor y'.desc).map (fun d => d.parameters.length) = some na) ∧ nL' ≤ 45 ∧ y'.name = "<init>" ∧ Cond.instanceMethod y' ∈ g_T ∧ Cond.initialized y'.cls ∈ g_T ∧ Cond.code y' cc' nL' none ∈ g_T ∧ (Cond.methodLink own index y' ∈ g_T ∨ Cond.methodLinkNest own index y' "GhostAssize" ∈ g_N)
/-- a static method with a table, by its entry -/
def g_Mw (own : String) (index : Nat) (y' : MethodName) (cc' : ByteArray) (nL' : Nat) (ret' : Option FieldType) (hh : List (Nat × Nat × Nat × Nat)) (na : Nat) : Prop := (y'.cls ≠ "java/lang/invoke/MethodHandle" ∧ y'.cls ≠ "java/lang/invoke/VarHandle" ∧ (parseMethodDescriptor y'.desc).map (fun d => d.parameters.length) = some na) ∧ nL' ≤ 45 ∧ Cond.methodLink own index y' ∈ g_T ∧ Cond.static y' ∈ g_T ∧ Cond.initialized y'.cls ∈ g_T ∧ Cond.codeWith y' cc' nL' ret' hh ∈ g_T
