/-! G: a logic over the machine's rows. The world is a map from addresses to cells; what a method needs of tables and start stands in one place. -/
section G1
abbrev OW : Type := Nat → Option va_E
/-- launch, class numbers and slots, array classes, the base of all that is ours, addresses of the String constants, of their bytes -/
abbrev GP : Type := Launch × va_G × List (ClassId × FieldType) × Nat × (Nat → Nat) × (Nat → Nat) × Option (Nat × Nat × (Nat → Int32))
abbrev gl (Θ : GP) : Launch := Θ.1
abbrev gD (Θ : GP) : va_G := Θ.2.1
abbrev gty (Θ : GP) : List (ClassId × FieldType) := Θ.2.2.1
abbrev gb (Θ : GP) : Nat := Θ.2.2.2.1
abbrev gK (Θ : GP) : Nat → Nat := Θ.2.2.2.2.1
abbrev gV (Θ : GP) : Nat → Nat := Θ.2.2.2.2.2.1
abbrev gX (Θ : GP) : Option (Nat × Nat × (Nat → Int32)) := Θ.2.2.2.2.2.2
abbrev gcl (Θ : GP) (k : Nat) : ClassId := ((gty Θ).getD k (0, .int)).1
abbrev gI (Θ : GP) : ClassId := gcl Θ 0
abbrev gB (Θ : GP) : ClassId := gcl Θ 1
abbrev gZ (Θ : GP) : ClassId := gcl Θ 2
abbrev gJ (Θ : GP) : ClassId := gcl Θ 3
abbrev gC (Θ : GP) : ClassId := gcl Θ 4
def gOK (Θ : GP) : Prop := gty Θ = [(gI Θ, .int), (gB Θ, .byte), (gZ Θ, .boolean), (gJ Θ, .long), (gC Θ, .object "GhostAssize$Court")]
def gA (Θ : GP) : Nat → Prop := fun q => gb Θ ≤ q
def g_upd (ω : OW) (a : Nat) (x : va_E) : OW := fun b => if b = a then some x else ω b
theorem g_upd_same (ω : OW) (a : Nat) (x : va_E) : g_upd ω a x a = some x := if_pos rfl
theorem g_upd_ne (ω : OW) {a b : Nat} (x : va_E) (h : b ≠ a) : g_upd ω a x b = ω b := if_neg h
/-- the list ws holds just the cells of ω -/
def g_L (ω : OW) (ws : va_W) : Prop := ∀ (a : Nat) (x : va_E), ω a = some x ↔ ∃ k : Nat, ws[k]? = some (a, x)
def g_H (Θ : GP) (ω : OW) (H : Heap) : Prop := ∃ ws : va_W, g_L ω ws ∧ va_P (gD Θ) vwCl ws H ∧ va_D (gA Θ) ws
theorem g_L.set {ω : OW} {ws : va_W} {A : Nat → Prop} (h : g_L ω ws) (hD : va_D A ws) {k a : Nat} {x0 : va_E} (hk : ws[k]? = some (a, x0)) (x : va_E) : g_L (g_upd ω a x) (ws.set k (a, x)) := by
  have hlt : k < ws.length := (List.getElem?_eq_some_iff.mp hk).1
  intro b y
  by_cases hb : b = a
  · subst hb
    rw [g_upd_same]
    constructor
    · intro e
      cases e
      exact ⟨k, by rw [List.getElem?_set_self hlt]⟩
    · rintro ⟨j, hj⟩
      by_cases hjk : k = j
      · subst hjk
        rw [List.getElem?_set_self hlt] at hj
        cases hj; rfl
      · rw [List.getElem?_set_ne hjk] at hj
        exact absurd (hD.1 k j _ _ hk hj rfl) hjk
  · rw [g_upd_ne _ _ hb, h b y]
    constructor
    · rintro ⟨j, hj⟩
      have hjk : k ≠ j := by
        intro e
        subst e
        rw [hk] at hj
        cases hj
        exact hb rfl
      exact ⟨j, by rw [List.getElem?_set_ne hjk]; exact hj⟩
    · rintro ⟨j, hj⟩
      by_cases hjk : k = j
      · subst hjk
        rw [List.getElem?_set_self hlt] at hj
        cases hj
        exact absurd rfl hb
      · rw [List.getElem?_set_ne hjk] at hj
        exact ⟨j, hj⟩
theorem g_L.push {ω : OW} {ws : va_W} (h : g_L ω ws) {a : Nat} (ha : ω a = none) (x : va_E) : g_L (g_upd ω a x) (ws ++ [(a, x)]) := by
  intro b y
  by_cases hb : b = a
  · subst hb
    rw [g_upd_same]
    constructor
    · intro e
      cases e
      exact ⟨ws.length, by simp⟩
    · rintro ⟨j, hj⟩
      rcases Nat.lt_or_ge j ws.length with h1 | h1
      · rw [List.getElem?_append_left h1] at hj
        have := (h b y).mpr ⟨j, hj⟩
        rw [ha] at this; cases this
      · rw [List.getElem?_append_right h1] at hj
        have : j - ws.length = 0 := by
          rcases Nat.eq_zero_or_pos (j - ws.length) with z | z
          · exact z
          · rw [List.getElem?_eq_none (by simp; omega)] at hj; cases hj
        rw [this] at hj
        cases hj; rfl
  · rw [g_upd_ne _ _ hb, h b y]
    constructor
    · rintro ⟨j, hj⟩
      exact ⟨j, by rw [List.getElem?_append_left (List.getElem?_eq_some_iff.mp hj).1]; exact hj⟩
    · rintro ⟨j, hj⟩
      rcases Nat.lt_or_ge j ws.length with h1 | h1
      · rw [List.getElem?_append_left h1] at hj
        exact ⟨j, hj⟩
      · rw [List.getElem?_append_right h1] at hj
        rcases Nat.eq_zero_or_pos (j - ws.length) with z | z
        · rw [z] at hj
          cases hj
          exact absurd rfl hb
        · rw [List.getElem?_eq_none (by simp; omega)] at hj; cases hj
theorem g_H.get {Θ : GP} {ω : OW} {H : Heap} (h : g_H Θ ω H) {a : Nat} {x : va_E} (ha : ω a = some x) : ∃ (ws : va_W) (k : Nat), ws[k]? = some (a, x) ∧ g_L ω ws ∧ va_P (gD Θ) vwCl ws H ∧ va_D (gA Θ) ws := by
  obtain ⟨ws, h1, h2, h3⟩ := h
  obtain ⟨k, hk⟩ := (h1 a x).mp ha
  exact ⟨ws, k, hk, h1, h2, h3⟩
theorem g_H.lt {Θ : GP} {ω : OW} {H : Heap} (h : g_H Θ ω H) {a : Nat} {x : va_E} (ha : ω a = some x) : a < H.size := by
  obtain ⟨ws, k, h1, -, h2, -⟩ := h.get ha
  exact (h2 k _ h1).lt
theorem g_H.none {Θ : GP} {ω : OW} {H : Heap} (h : g_H Θ ω H) : ω H.size = none := by
  cases e : ω H.size with
  | none => rfl
  | some x => exact absurd (h.lt e) (Nat.lt_irrefl _)
/-- what stays outside the world: the classes, the exceptions' statics, the String constants -/
def g_strs : List (String × Nat × String) := [("GhostAssizeModel", 149, "jerk"), ("GhostAssizeModel", 155, "at"), ("GhostAssizeModel", 163, "worn"), ("GhostAssizeModel", 168, "nerve"), ("GhostAssizeModel", 170, "did"), ("GhostAssizeModel", 172, "knows"), ("GhostAssizeModel", 174, "prop"), ("GhostAssizeModel", 180, "accused"), ("GhostAssizeModel", 185, "calm"), ("GhostAssizeModel", 190, "echo"), ("GhostAssizeModel", 192, "day"), ("GhostAssizeModel", 201, "slot"), ("GhostAssizeModel", 203, "tense"), ("GhostAssizeModel", 211, "guilty"), ("GhostAssizeModel", 219, "not"), ("GhostAssizeModel", 230, "and"), ("GhostAssizeModel", 235, "or"), ("GhostAssizeModel", 237, "fright"), ("GhostAssizeModel", 239, "ease"), ("GhostAssizeModel", 241, "wear"), ("GhostAssizeModel", 243, "if"), ("GhostAssize", 127, "the text of the court is wrong"), ("GhostAssize", 137, "there are 12 texts"), ("GhostAssize", 146, "the text of the law is wrong"), ("GhostAssize", 172, "a prop has 0 to 3"), ("GhostAssize", 196, "an accused has 0 to 3"), ("GhostAssize", 198, "tense is 0 to 99"), ("GhostAssize", 264, "it is nailed, or there is a prop"), ("GhostAssize", 270, "there is no prop"), ("GhostAssize", 281, "calm is 0 to 9"), ("GhostAssize", 286, "mornings are 1 to 60"), ("GhostAssize", 338, "the tape is not that, or nerve is none"), ("GhostAssize", 349, "both are one"), ("GhostAssize", 398, "a row has 0 to 3"), ("GhostAssize", 418, "there is no such prop"), ("GhostAssize", 421, "there is no such slot"), ("GhostAssize", 423, "there is nobody of that number"), ("GhostAssize", 425, "that one does not wait, or is not held"), ("GhostAssize", 427, "trials are 0 to 20")]
def g_byts : List (List Int32) := [[106, 101, 114, 107], [97, 116], [119, 111, 114, 110], [110, 101, 114, 118, 101], [100, 105, 100], [107, 110, 111, 119, 115], [112, 114, 111, 112], [97, 99, 99, 117, 115, 101, 100], [99, 97, 108, 109], [101, 99, 104, 111], [100, 97, 121], [115, 108, 111, 116], [116, 101, 110, 115, 101], [103, 117, 105, 108, 116, 121], [110, 111, 116], [97, 110, 100], [111, 114], [102, 114, 105, 103, 104, 116], [101, 97, 115, 101], [119, 101, 97, 114], [105, 102]]
def g_lens : List Nat := [4, 2, 4, 5, 3, 5, 4, 7, 4, 4, 3, 4, 5, 6, 3, 3, 2, 6, 4, 4, 2]
theorem g_N_at {s U : State} (hW : s.WarmedH U.vm) : ∀ w ∈ g_N, va_Nw w s → va_Nw w U := by
  intro w hw
  simp only [g_N, List.mem_cons, List.not_mem_nil, or_false] at hw
  rcases hw with rfl | rfl | rfl | rfl | rfl | rfl | rfl | rfl | rfl | rfl | rfl | rfl
  all_goals first | exact va_Nw.warmM hW | exact va_Nw.warmC hW | exact va_Nw.warmD hW
def g_SF (Θ : GP) (U : State) : Prop := va_K (gD Θ) vwCl (gty Θ) U ∧ vx_Zq Bundle.tN "UNASSIGNED_STACK" Bundle.steD (gA Θ) U U.heap ∧ vx_Zq Bundle.tN "SUPPRESSED_SENTINEL" Bundle.listD (gA Θ) U U.heap ∧ vk_S 21 g_lens g_byts (gK Θ) (gV Θ) (gA Θ) U U.heap ∧ (∀ (k : Nat) (q : String × Nat × String), g_strs[k]? = some q → vk_R q.1 q.2.1 q.2.2 (gK Θ k) U) ∧ gb Θ ≤ U.heap.size ∧ (∀ w ∈ g_N, va_Nw w U) ∧ (∀ q ∈ g_NC, va_Nc q.1 q.2 U) ∧ gOK Θ ∧ (gl Θ).stackTraces = false ∧ va_AO "GhostAssize$Court" U ∧ (∀ q, gX Θ = some q → va_X q.1 q.2.1 q.2.2 U U.heap ∧ q.1 < gb Θ ∧ q.1 < U.heap.size) ∧ va_Z "java/lang/String" "COMPACT_STRINGS" "Z" (.int 1) (gA Θ) U U.heap ∧ va_Zq "jdk/internal/util/Preconditions" "SIOOBE_FORMATTER" "Ljava/util/function/BiFunction;" (gA Θ) U U.heap
theorem g_SF.at {Θ : GP} {s U : State} {H : Heap} {locs : List Loc} (h : g_SF Θ s) (hS : va_S (gA Θ) s.heap H locs) (hU : U.heap = H) (hW : s.WarmedH U.vm) : g_SF Θ U := by
  obtain ⟨h1, h2, h3, h4, h5, h6, h7, h8, h9, h10, h11, h12, h13, h14⟩ := h
  refine ⟨va_K.moved hW.alike h1, ?_, ?_, ?_, fun k q hq => vk_R.warm hW (h5 k q hq), ?_, fun w hw => g_N_at hW w hw (h7 w hw), fun q hq => va_Nc.moved hW.alike (h8 q hq), h9, h10, va_AO.moved hW.alike h11, ?_, ?_, ?_⟩
  · rw [hU]; exact vx_Zq.moved hW.alike (h2.kept hS.2.1)
  · rw [hU]; exact vx_Zq.moved hW.alike (h3.kept hS.2.1)
  · rw [hU]; exact vk_S.moved hW.alike (h4.kept hS.2.1)
  · rw [hU]; exact Nat.le_trans h6 hS.1
  · intro q hq
    obtain ⟨⟨scr, a1, a2, a3, a4, a5⟩, b1, b2⟩ := h12 q hq
    rw [hU]
    refine ⟨⟨scr, ?_, State.isArrayOf_alike hW.alike a2, a3, a4, a5⟩, b1, Nat.lt_of_lt_of_le b2 hS.1⟩
    rw [hS.2.1 q.1 b2 (fun z => absurd b1 (Nat.not_lt.mpr z))]
    exact a1
  · rw [hU]; exact va_Z.moved hW.alike (va_Z.kept h13 hS.2.1)
  · rw [hU]; exact va_Zq.moved hW.alike (va_Zq.kept h14 hS.2.1)
def g_WS (Θ : GP) (ω : OW) (n : Nat) (U : State) : Prop := g_SF Θ U ∧ g_H Θ ω U.heap ∧ U.heap.size = n
def g_Qc (Θ : GP) (Qv : Option Value → OW → Nat → Prop) : Array Value → State → Outcome → State → Prop := fun _ st o t => ∃ (v : Option Value) (ω' : OW) (n' : Nat), o = .returned v ∧ Qv v ω' n' ∧ g_H Θ ω' t.heap ∧ t.heap.size = n' ∧ va_F (gA Θ) st t
def g_Qx (Θ : GP) (Qx : String → OW → Nat → Prop) : String → State → State → Prop := fun E st t => ∃ (ω' : OW) (n' : Nat), Qx E ω' n' ∧ g_H Θ ω' t.heap ∧ t.heap.size = n' ∧ va_F (gA Θ) st t
/-- the contract: from a world ω (n cells in all) the method y with the arguments av comes back with Qv, or throws with Qx; d: its depth; cs cells and sl slots may come -/
def Con (Θ : GP) (d cs sl : Nat) (y : MethodName) (cc : ByteArray) (nL : Nat) (ret : Option FieldType) (av : List Value) (ω : OW) (n : Nat) (Qv : Option Value → OW → Nat → Prop) (Qx : String → OW → Nat → Prop) : Prop :=
  vx_Met (gl Θ) y (.code y cc nL ret :: g_T) { frames := d, cells := cs, slots := sl, locals := 64 * d } (fun a U => a = av.toArray ∧ g_WS Θ ω n U) (g_Qc Θ Qv) (g_Qx Θ Qx) cs sl (gA Θ)
/-- what stands still in a method's walk -/
def g_C (Θ : GP) (y : MethodName) (cc : ByteArray) (nL : Nat) (ret : Option FieldType) (d : Nat) (tab : List ExceptionTableEntry) (p : Program) (R : Room) (s : State) (m : MethodId) (args : Array Value) (meth : Method) (c : Code) : Prop :=
  p.tables.exec = Jvm.exec ∧ c.code = cc ∧ meth.sig.returnType = ret ∧ c.maxLocals = nL ∧ s.vm.findClass y.cls = some m.cls ∧ (∀ w ∈ g_T, w.before args s = true) ∧ meth.locks = false ∧ c.exceptionTable.toList = tab ∧ d ≤ R.frames ∧ 64 * d ≤ R.locals ∧ g_SF Θ s ∧ (gl Θ).stackTraces = false ∧ meth.name = y.name
/-- what moves -/
def g_S (Θ : GP) (B : Nat × Nat) (ω : OW) (n : Nat) (R : Room) (s : State) (H : Heap) (locs : List Loc) (cells slots mc ms : Nat) : Prop :=
  cells + B.1 ≤ mc ∧ slots + B.2 ≤ ms ∧ mc ≤ R.cells ∧ ms ≤ R.slots ∧ g_H Θ ω H ∧ H.size = n ∧ va_S (gA Θ) s.heap H locs
def G (Θ : GP) (y : MethodName) (cc : ByteArray) (nL : Nat) (ret : Option FieldType) (d : Nat) (tab : List ExceptionTableEntry) (Qv : Option Value → OW → Nat → Prop) (Qx : String → OW → Nat → Prop) (B : Nat × Nat) (pc : Nat) (lv : List (Nat × Value)) (st : List Value) (ω : OW) (n : Nat) : Prop :=
  ∀ (p : Program) (e : Env) (R : Room) (s : State) (m : MethodId) (args : Array Value) (below : List Frame) (meth : Method) (c : Code) (H : Heap) (locs : List Loc) (cells slots mc ms : Nat) (ls : Array Slot),
    g_C Θ y cc nL ret d tab p R s m args meth c → g_S Θ B ω n R s H locs cells slots mc ms → lv_has ls nL lv →
    W p (gl Θ) e R s m args below meth c H locs cells slots (vx_MQ below (g_Qc Θ Qv) (g_Qx Θ Qx) args s mc ms (gA Θ)) (F0 m pc ls st)
end G1
section G2
variable {Θ : GP} {y : MethodName} {cc : ByteArray} {nL : Nat} {ret : Option FieldType} {d : Nat} {tab : List ExceptionTableEntry} {Qv : Option Value → OW → Nat → Prop} {Qx : String → OW → Nat → Prop} {B : Nat × Nat} {pc : Nat} {lv : List (Nat × Value)} {st : List Value} {ω : OW} {n : Nat}
/-- a step that leaves the world as it is -/
theorem G.pure {pc' : Nat} {lv' : List (Nat × Value)} {st' : List Value} (h : ∀ (p : Program) (e : Env) (R : Room) (s : State) (m : MethodId) (args : Array Value) (below : List Frame) (meth : Method) (c : Code) (H : Heap) (locs : List Loc) (cells slots : Nat) (Q : State → Prop) (ls : Array Slot), p.tables.exec = Jvm.exec → c.code = cc → lv_has ls nL lv →
      (∀ ls' : Array Slot, lv_has ls' nL lv' → W p (gl Θ) e R s m args below meth c H locs cells slots Q (F0 m pc' ls' st')) → W p (gl Θ) e R s m args below meth c H locs cells slots Q (F0 m pc ls st))
    (k : G Θ y cc nL ret d tab Qv Qx B pc' lv' st' ω n) : G Θ y cc nL ret d tab Qv Qx B pc lv st ω n := by
  intro p e R s m args below meth c H locs cells slots mc ms ls hC hS hl
  exact h p e R s m args below meth c H locs cells slots _ ls hC.1 hC.2.1 hl (fun ls' hl' => k p e R s m args below meth c H locs cells slots mc ms ls' hC hS hl')
/-- the same, with the method's own words -/
theorem G.pureC {pc' : Nat} {lv' : List (Nat × Value)} {st' : List Value} (h : ∀ (p : Program) (e : Env) (R : Room) (s : State) (m : MethodId) (args : Array Value) (below : List Frame) (meth : Method) (c : Code) (H : Heap) (locs : List Loc) (cells slots : Nat) (Q : State → Prop) (ls : Array Slot), g_C Θ y cc nL ret d tab p R s m args meth c → va_S (gA Θ) s.heap H locs → g_H Θ ω H → lv_has ls nL lv →
      (∀ ls' : Array Slot, lv_has ls' nL lv' → W p (gl Θ) e R s m args below meth c H locs cells slots Q (F0 m pc' ls' st')) → W p (gl Θ) e R s m args below meth c H locs cells slots Q (F0 m pc ls st))
    (k : G Θ y cc nL ret d tab Qv Qx B pc' lv' st' ω n) : G Θ y cc nL ret d tab Qv Qx B pc lv st ω n := by
  intro p e R s m args below meth c H locs cells slots mc ms ls hC hS hl
  exact h p e R s m args below meth c H locs cells slots _ ls hC hS.2.2.2.2.2.2 hS.2.2.2.2.1 hl (fun ls' hl' => k p e R s m args below meth c H locs cells slots mc ms ls' hC hS hl')
/-- a step that has two ways -/
theorem G.two {pc1 pc2 : Nat} {st1 st2 : List Value} {c1 c2 : Prop} (h : ∀ (p : Program) (e : Env) (R : Room) (s : State) (m : MethodId) (args : Array Value) (below : List Frame) (meth : Method) (c : Code) (H : Heap) (locs : List Loc) (cells slots : Nat) (Q : State → Prop) (ls : Array Slot), p.tables.exec = Jvm.exec → c.code = cc →
      (c1 → W p (gl Θ) e R s m args below meth c H locs cells slots Q (F0 m pc1 ls st1)) → (c2 → W p (gl Θ) e R s m args below meth c H locs cells slots Q (F0 m pc2 ls st2)) → W p (gl Θ) e R s m args below meth c H locs cells slots Q (F0 m pc ls st))
    (k1 : c1 → G Θ y cc nL ret d tab Qv Qx B pc1 lv st1 ω n) (k2 : c2 → G Θ y cc nL ret d tab Qv Qx B pc2 lv st2 ω n) : G Θ y cc nL ret d tab Qv Qx B pc lv st ω n := by
  intro p e R s m args below meth c H locs cells slots mc ms ls hC hS hl
  exact h p e R s m args below meth c H locs cells slots _ ls hC.1 hC.2.1 (fun z => k1 z p e R s m args below meth c H locs cells slots mc ms ls hC hS hl) (fun z => k2 z p e R s m args below meth c H locs cells slots mc ms ls hC hS hl)
/-- fewer locals, in another order -/
theorem G.lsub {lv' : List (Nat × Value)} (ks : List Nat) (hl : lv_pick lv ks = lv') (k : G Θ y cc nL ret d tab Qv Qx B pc lv' st ω n) : G Θ y cc nL ret d tab Qv Qx B pc lv st ω n := by
  intro p e R s m args below meth c H locs cells slots mc ms ls hC hS h
  exact k p e R s m args below meth c H locs cells slots mc ms ls hC hS (lv_sub h ks hl)
theorem G.less {B' : Nat × Nat} (h1 : B'.1 ≤ B.1) (h2 : B'.2 ≤ B.2) (k : G Θ y cc nL ret d tab Qv Qx B' pc lv st ω n) : G Θ y cc nL ret d tab Qv Qx B pc lv st ω n := by
  intro p e R s m args below meth c H locs cells slots mc ms ls hC hS h
  obtain ⟨q1, q2, q3⟩ := hS
  exact k p e R s m args below meth c H locs cells slots mc ms ls hC ⟨by omega, by omega, q3⟩ h
/-- the end of a method that answers something (or nothing) -/
theorem G.fin {v : Option Value} (h : ∀ (p : Program) (e : Env) (R : Room) (s : State) (m : MethodId) (args : Array Value) (below : List Frame) (meth : Method) (c : Code) (H : Heap) (locs : List Loc) (cells slots : Nat) (ls : Array Slot) (Qc : Array Value → State → Outcome → State → Prop), p.tables.exec = Jvm.exec → c.code = cc → meth.sig.returnType = ret → meth.locks = false →
      (∀ t : State, t.heap = H → s.WarmedH t.vm → Qc args s (.returned v) t) → (∀ q ∈ locs, gA Θ q.base) → W p (gl Θ) e R s m args below meth c H locs cells slots (MQ below Qc args s cells slots (gA Θ)) (F0 m pc ls st))
    (k : Qv v ω n) : G Θ y cc nL ret d tab Qv Qx B pc lv st ω n := by
  intro p e R s m args below meth c H locs cells slots mc ms ls hC hS hl
  obtain ⟨q1, q2, q3, q4, q5, q6, q7⟩ := hS
  refine W.widen (k := mc) (n := ms) (by omega) (by omega) ?_
  refine vx_ret ?_
  exact h p e R s m args below meth c H locs mc ms ls _ hC.1 hC.2.1 hC.2.2.1 hC.2.2.2.2.2.2.1 (fun t ht _ => ⟨v, ω, n, rfl, k, by rw [ht]; exact q5, by rw [ht]; exact q6, q7.F ht⟩) q7.2.2
/-- a contract out of the walk of the body -/
theorem Con.of {cs sl : Nat} {av : List Value} (hy : plainName y.cls = true) (hn : (lg_sl av).length ≤ nL)
    (k : G Θ y cc nL ret d [] Qv Qx (cs, sl) 0 (lv_args 0 av) [] ω n) : Con Θ d cs sl y cc nL ret av ω n Qv Qx := by
  refine vx_ofW (cc := cc) (maxL := nL) (ret := ret) hy rfl ?_
  intro p e s m args below meth c s₁ B hml htab hv
  obtain ⟨rfl, hW⟩ := hv
  have hts := atoms_spec (ws := .code y cc nL ret :: g_T) B.pre
  have hl := lv_entry av (n := nL) hn
  rw [lg_entry_eq]
  obtain ⟨h1, h2, h3⟩ := hW
  exact k p e _ s m _ below meth c s.heap [] 0 0 cs sl _ ⟨B.exec, B.bytes, B.returns, hml, findClass_of_methodNamed B.named, fun w hw => hts w (List.mem_cons_of_mem _ hw), B.notSynchronized, List.eq_nil_iff_forall_not_mem.mpr (fun x hx => htab x hx), Nat.le_refl _, Nat.le_refl _, h1, h1.2.2.2.2.2.2.2.2.2.1, (name_of_methodNamed B.named B.method).1⟩
    ⟨by show 0 + cs ≤ cs; omega, by show 0 + sl ≤ sl; omega, Nat.le_refl _, Nat.le_refl _, h2, h3, va_S.rf⟩ hl
end G2
