/-! lines of the law -/
abbrev LI : Type := Int32 × Int32 × CE
def noC : CE := ([], [], 0, fun _ => true)
def liK (x : TX) (q : Nat) (kd : Int32) : Nat × Option LI := if nmR x (skT x (weT x q)) 0 30 = -1 then (skT x (weT x q), none) else if isWd x (skT x (deT x (skT x (weT x q)))) 20 = true then bnd (cdP x (atP x 7) (skT x (weT x (skT x (deT x (skT x (weT x q))))))) (fun r c => (r, some (kd, nmR x (skT x (weT x q)) 0 30, c))) else (skT x (deT x (skT x (weT x q))), some (kd, nmR x (skT x (weT x q)) 0 30, noC))
def liP (x : TX) (q : Nat) : Nat × Option LI := if isWd x q 17 = true then liK x q 0 else if isWd x q 18 = true then liK x q 1 else if isWd x q 19 = true then liK x q 2 else (q, none)
def lwL (x : TX) : Nat → Nat → Nat × Option (List LI)
  | 0, q => (q, none)
  | k + 1, q => bnd (liP x q) (fun r l => if x.1 ≤ r then (r, some [l]) else if isSg x r 59 = true then bnd (lwL x k (skT x (r + 1))) (fun r' L => (r', some (l :: L))) else (r, none))
def lwP (x : TX) : Nat × Option (List LI) := if x.1 ≤ skT x 0 then (skT x 0, some []) else lwL x 12 (skT x 0)
/-- what the class's reading of a line may write -/
def XQ2 (S S' : PZ) : Prop := (∀ k j, ¬ (k = 1 ∧ 1 ≤ j ∧ j ≤ 3) → ¬ (k = 197 ∧ j = 2) → zF S' k j = zF S k j) ∧ (∀ k, ¬ (198 ≤ k ∧ k ≤ 201) → zA S' k = zA S k) ∧ zA S' 200 = zA S 200 ∧ (∀ k j, zR S' k j = zR S k j) ∧ (∀ k, k ≠ 1 → zL S' k = zL S k)
section LN
variable {Θ : GP} {S S' S'' : PZ} {ω : OW} {n : Nat} {x : TX}
theorem XQ2.rf (S : PZ) : XQ2 S S := ⟨fun _ _ _ _ => rfl, fun _ _ => rfl, rfl, fun _ _ => rfl, fun _ _ => rfl⟩
theorem XQ2.trans (h : XQ2 S S') (g : XQ2 S' S'') : XQ2 S S'' := ⟨fun k j q z => (g.1 k j q z).trans (h.1 k j q z), fun k z => (g.2.1 k z).trans (h.2.1 k z), g.2.2.1.trans h.2.2.1, fun k j => (g.2.2.2.1 k j).trans (h.2.2.2.1 k j), fun k q => (g.2.2.2.2 k q).trans (h.2.2.2.2 k q)⟩
theorem XQl.l (h : XQl S S') : XQ2 S S' := ⟨h.1, fun k z => h.2.1 k (by omega), h.2.1 200 (by omega), h.2.2.1, h.2.2.2⟩
theorem XTk.l (h : XTk S S') : XQ2 S S' := h.q.l
theorem XQ2.nA (h : XQ2 S S') {k : Nat} {f : Nat → Int32} (hk : k = 198 ∨ k = 199) : XQ2 S (uA S' k f) := ⟨h.1, fun a z => by rw [zA_ne _ _ (by omega), h.2.1 a z], by rw [zA_ne _ _ (by omega), h.2.2.1], h.2.2.2.1, h.2.2.2.2⟩
theorem TC.x2 (h : TC S x) (t : XQ2 S S') : TC S' x := ⟨by rw [t.1 1 0 (by omega) (by omega)]; exact h.1, h.2.1, by rw [t.2.1 2 (by omega)]; exact h.2.2⟩
def XLn (Θ : GP) (S : PZ) (ω : OW) (n : Nat) (x : TX) (l s : Nat) (o : Nat × Option LI) (r : RO) : Prop := ∃ S', r = some (.inl (some (.int (b01 o.2.isSome)), laz Θ S' ω, n)) ∧ XQ2 S S' ∧ TK S' x o.1 ∧ ∀ ln, o.2 = some ln → zA S' 198 = upd (zA S 198) l ln.1 ∧ zA S' 199 = upd (zA S 199) l ln.2.1 ∧ XWl S S' s ln.2.2.1
theorem x_ln71 (h : TC S x) {q l s : Nat} {kd : Int32} (hl : l < 12) (hq : q ≤ x.1) (t : TK S x (skT x (weT x q))) (hs : zF S 197 2 = nI s) (hs4 : s + (x.1 - q) ≤ 400) {S0 : PZ} (h0 : XQ2 S0 S) (h8 : zA S 198 = upd (zA S0 198) l kd) (h9 : zA S 199 = zA S0 199) (h1 : zA S 201 = zA S0 201) : XLn Θ S0 ω n x l s (liK x q kd) (J_X3_readLine_71 Θ (gb Θ + 197) (nI l) (laz Θ S ω) n) := by
  have hx := h.2.1
  have hw := weT_b hq
  have hs1 := skT_b hw.2
  have hd := deT_b hs1.2
  have hs2 := skT_b hd.2
  unfold J_X3_readLine_71 J_X3_readLine_124 J_X3_readLine_129 liK
  rw [a197_0, d1, x_number h t, kI_v]
  by_cases y : nmR x (skT x (weT x q)) 0 30 = -1
  · rw [if_pos y, if_pos y]
    exact ⟨S, rfl, h0, t, fun ln e => by cases e⟩
  · obtain ⟨v, v1, v2, _, _, v5⟩ := nm_rg t.1 y
    have t1 : TK (uA S 199 (upd (zA S 199) l (nmR x (skT x (weT x q)) 0 30))) x (skT x (weT x q)) := t.nA
    have k1 : XQ2 S (uA S 199 (upd (zA S 199) l (nmR x (skT x (weT x q)) 0 30))) := (XQ2.rf S).nA (Or.inr rfl)
    obtain ⟨S1, e1, x1, t2⟩ := x_adv (Θ := Θ) (ω := ω) (n := n) (h.x2 k1) t1
    rw [v5] at t2
    have h2 := (h.x2 k1).xtk x1
    obtain ⟨S2, e2, x2, t3⟩ := x_takeWord (Θ := Θ) (ω := ω) (n := n) h2 t2 (s := 20) (by decide) (c := 26982) (by decide)
    have h3 := h2.xtk x2
    have k2 : XQ2 S0 S2 := ((h0.trans k1).trans x1.l).trans x2.l
    have r8 : zA S2 198 = upd (zA S0 198) l kd := by rw [x2.2.1, x1.2.1]; exact h8
    have r9 : zA S2 199 = upd (zA S0 199) l (nmR x (skT x (weT x q)) 0 30) := by rw [x2.2.1, x1.2.1, zA_eq, h9]
    have r1 : zA S2 201 = zA S0 201 := by rw [x2.2.1, x1.2.1]; exact h1
    have rs : zF S2 197 2 = nI s := by rw [x2.1 197 2 (by omega), x1.1 197 2 (by omega)]; exact hs
    rw [if_neg y, if_neg y, a197_4, s_199 hl, a197_0, d1, e1, kV_v, a197_0, d1, e2, kI_v]
    cases hz : isWd x (skT x (deT x (skT x (weT x q)))) 20 with
    | false =>
      rw [hz, if_neg (show ¬ false = true by decide)] at t3
      rw [if_pos (show b01 false = 0 from rfl), if_neg (show ¬ false = true by decide)]
      exact ⟨S2, rfl, k2, t3, fun ln e => by cases e; exact ⟨r8, r9, rs, fun k hk => absurd hk (Nat.not_lt_zero _), fun k _ => by rw [r1]⟩⟩
    | true =>
      rw [hz, if_pos rfl] at t3
      have hn := wd_nx (by omega) hz hs2.2
      rw [if_neg (show ¬ b01 true = 0 by decide), if_pos rfl, d197]
      obtain ⟨S3, e3, q3, t4, w3⟩ := x_cond (x_atom (Θ := Θ) (ω := ω) (n := n) hx 7 8 (by omega) (by omega) (by omega)) (atG hx 7) hx h3 t3 rs (by omega)
      have e3 : F_X3_readCondition Θ (F_X3_readAtom Θ 8) (gb Θ + 197) 0 (laz Θ S2 ω) n = _ := e3
      rcases hm : cdP x (atP x 7) (skT x (weT x (skT x (deT x (skT x (weT x q)))))) with ⟨r, _ | c⟩
      · rw [hm] at e3 t4
        rw [e3, kI_v, if_pos (show b01 (none : Option CE).isSome = 0 from rfl)]
        exact ⟨S3, rfl, k2.trans q3.l, t4, fun ln e => by cases e⟩
      · rw [hm] at e3 t4 w3
        have w3 := w3 c rfl
        rw [e3, kI_v, if_neg (som1 c)]
        exact ⟨S3, rfl, k2.trans q3.l, t4, fun ln e => by cases e; exact ⟨by rw [q3.2.1 198 (by omega)]; exact r8, by rw [q3.2.1 199 (by omega)]; exact r9, w3.1, w3.2.1, fun k hk => by rw [w3.2.2 k hk, r1]⟩⟩
theorem x_lnLaw (h : TC S x) {q l s : Nat} (hl : l < 12) (t : TK S x q) (hs : zF S 197 2 = nI s) (hs4 : s + (x.1 - q) ≤ 400) : XLn Θ S ω n x l s (liP x q) (F_X3_readLine Θ (gb Θ + 197) (nI l) (laz Θ S ω) n) := by
  obtain ⟨S1, e1, x1, t1⟩ := x_takeWord (Θ := Θ) (ω := ω) (n := n) h t (s := 17) (by decide) (c := 112641580689524) (by decide)
  have go : ∀ (S2 : PZ) (kd : Int32), XTk S S2 → TK S2 x (skT x (weT x q)) → XLn Θ S ω n x l s (liK x q kd) (J_X3_readLine_71 Θ (gb Θ + 197) (nI l) (laz Θ (uA S2 198 (upd (zA S2 198) l kd)) ω) n) := by
    intro S2 kd xx tt
    exact x_ln71 (S := uA S2 198 (upd (zA S2 198) l kd)) (h.x2 (xx.l.nA (Or.inl rfl))) hl t.1 tt.nA (by rw [zF_uA, xx.1 197 2 (by omega)]; exact hs) hs4 (xx.l.nA (Or.inl rfl)) (by rw [zA_eq, xx.2.1]) (by rw [zA_ne _ _ (by omega), xx.2.1]) (by rw [zA_ne _ _ (by omega), xx.2.1])
  unfold F_X3_readLine liP
  rw [a197_0, d1, e1, kI_v]
  cases h17 : isWd x q 17 with
  | true =>
    rw [h17, if_pos rfl] at t1
    rw [if_neg (show ¬ b01 true = 0 by decide), if_pos rfl, a197_3, s_198 hl]
    exact go S1 0 x1 t1
  | false =>
    rw [h17, if_neg (show ¬ false = true by decide)] at t1
    obtain ⟨S2, e2, x2, t2⟩ := x_takeWord (Θ := Θ) (ω := ω) (n := n) (h.xtk x1) t1 (s := 18) (by decide) (c := 1700885349) (by decide)
    rw [if_pos (show b01 false = 0 from rfl), if_neg (show ¬ false = true by decide), a197_0, d1, e2, kI_v]
    cases h18 : isWd x q 18 with
    | true =>
      rw [h18, if_pos rfl] at t2
      rw [if_neg (show ¬ b01 true = 0 by decide), if_pos rfl, a197_3, s_198 hl]
      exact go S2 1 (x1.trans x2) t2
    | false =>
      rw [h18, if_neg (show ¬ false = true by decide)] at t2
      obtain ⟨S3, e3, x3, t3⟩ := x_takeWord (Θ := Θ) (ω := ω) (n := n) ((h.xtk x1).xtk x2) t2 (s := 19) (by decide) (c := 2003132786) (by decide)
      rw [if_pos (show b01 false = 0 from rfl), if_neg (show ¬ false = true by decide), a197_0, d1, e3, kI_v]
      cases h19 : isWd x q 19 with
      | true =>
        rw [h19, if_pos rfl] at t3
        rw [if_neg (show ¬ b01 true = 0 by decide), if_pos rfl, a197_3, s_198 hl]
        exact go S3 2 ((x1.trans x2).trans x3) t3
      | false =>
        rw [h19, if_neg (show ¬ false = true by decide)] at t3
        rw [if_pos (show b01 false = 0 from rfl), if_neg (show ¬ false = true by decide)]
        exact ⟨S3, rfl, ((x1.trans x2).trans x3).l, t3, fun ln e => by cases e⟩
end LN
