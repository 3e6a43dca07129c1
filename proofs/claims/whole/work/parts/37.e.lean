/-! two in one car: the reference's loop -/
theorem csR_00 {q : (Int32 × Int32) × (Int32 × Int32)} (h1 : q.1.1 = -1) (h2 : q.2.1 = -1) : csR q = 0 := by unfold csR; rw [if_pos h1, if_pos h2]; decide
theorem csR_10 {q : (Int32 × Int32) × (Int32 × Int32)} (h1 : ¬ q.1.1 = -1) (h2 : q.2.1 = -1) : csR q = 1 := by unfold csR; rw [if_neg h1, if_pos h2]; decide
theorem csR_01 {q : (Int32 × Int32) × (Int32 × Int32)} (h1 : q.1.1 = -1) (h2 : ¬ q.2.1 = -1) : csR q = 2 := by unfold csR; rw [if_pos h1, if_neg h2]; decide
theorem csR_11 {q : (Int32 × Int32) × (Int32 × Int32)} (h1 : ¬ q.1.1 = -1) (h2 : ¬ q.2.1 = -1) : csR q = 3 := by unfold csR; rw [if_neg h1, if_neg h2]; decide
theorem caS_iff {c : RPar} {s : Nat} {q : Int32 × Int32} (hs : s < 10) (h : q.1 = -1) : (caS c s q).2 ≤ c.2.2.2.2.1 ↔ (caS c s q).1 = -1 := by
  unfold caS
  rw [if_pos h]
  dsimp only
  by_cases y : rte c s q.2 0 ≤ c.2.2.2.2.1
  · rw [if_pos y]; exact ⟨fun _ => rfl, fun _ => y⟩
  · rw [if_neg y]; exact ⟨fun u => absurd u y, fun u => ((q_m1 (by omega)).mp u).elim⟩
theorem caS_id {c : RPar} {s : Nat} {q : Int32 × Int32} (h : ¬ q.1 = -1) : caS c s q = q := if_neg h
section CD
variable {Θ : GP} {S S0 : PZ} {ω : OW} {n : Nat} {w : Nat → Int32} {lw : LW} {a b : Nat}
theorem m_car_127 {K : Nat → Int32 → Int32 → Int32 → Int32 → OW → Nat → RO} (ha : a < 6) (hb : b < 6) (l3 l4 l5 : Int32) : J_X11_car_127 Θ K (gb Θ + 218) (nI a) (nI b) l3 l4 l5 (laz Θ S ω) n = J_X11_car_180 Θ K (gb Θ + 218) (nI a) (nI b) l4 l5 (if hasS l5 1 = 0 ∧ ¬ zF S 218 32 ≤ zA S 219 (4 * b + 42) then 2 else 0) (if hasS l5 0 = 0 ∧ ¬ zF S 218 31 ≤ zA S 219 (4 * a + 42) then 1 else 0) l3 (laz Θ S ω) n := by
  have h2 : ∀ s0, J_X11_car_154 Θ K (gb Θ + 218) (nI a) (nI b) l4 l5 s0 l3 (laz Θ S ω) n = J_X11_car_180 Θ K (gb Θ + 218) (nI a) (nI b) l4 l5 (if hasS l5 1 = 0 ∧ ¬ zF S 218 32 ≤ zA S 219 (4 * b + 42) then 2 else 0) s0 l3 (laz Θ S ω) n := by
    intro s0
    unfold J_X11_car_154 J_X11_car_179
    rw [m_has, kI_v]
    by_cases z : hasS l5 1 = 0
    · rw [if_pos z, a218_32, d218, m_screams hb, kI_v]
      by_cases y : zF S 218 32 ≤ zA S 219 (4 * b + 42)
      · rw [if_pos y, if_pos rfl, if_neg (fun u => u.2 y)]
      · rw [if_neg y, if_neg (show ¬ (1 : Int32) = 0 by decide), if_pos ⟨z, y⟩]
    · rw [if_neg z, if_neg (fun u => z u.1)]
  unfold J_X11_car_127 J_X11_car_153
  rw [m_has, kI_v]
  by_cases z : hasS l5 0 = 0
  · rw [if_pos z, a218_31, d218, m_screams ha, kI_v]
    by_cases y : zF S 218 31 ≤ zA S 219 (4 * a + 42)
    · rw [if_pos y, if_pos rfl, if_neg (fun (u : hasS l5 0 = 0 ∧ ¬ zF S 218 31 ≤ zA S 219 (4 * a + 42)) => u.2 y)]
      exact h2 0
    · rw [if_neg y, if_neg (show ¬ (1 : Int32) = 0 by decide), if_pos (⟨z, y⟩ : hasS l5 0 = 0 ∧ ¬ zF S 218 31 ≤ zA S 219 (4 * a + 42))]
      exact h2 1
  · rw [if_neg z, if_neg (fun (u : hasS l5 0 = 0 ∧ ¬ zF S 218 31 ≤ zA S 219 (4 * a + 42)) => z u.1)]
    exact h2 0
/-- both go on -/
theorem m_car_two {K : Nat → Int32 → Int32 → Int32 → Int32 → OW → Nat → RO} (hW : WB w) (hM : LawM w lw) (ha : a < 6) (hb : b < 6) {k : Nat} (hk : k < 10) {q : (Int32 × Int32) × (Int32 × Int32)} (xc : XC S0 S) (hw : zA S 219 = w) (h31 : zF S 218 31 = q.1.2) (h32 : zF S 218 32 = q.2.2) (g1 : Rg q.1.2 10000) (g2 : Rg q.2.2 10000) : ∃ S2, B_X11_car_69 Θ K (gb Θ + 218) (nI a) (nI b) (csR q) (nI k) (laz Θ S ω) n = J_X11_car_127 Θ K (gb Θ + 218) (nI a) (nI b) (csR q) (nI k) (csR q) (laz Θ S2 ω) n ∧ XC S0 S2 ∧ zA S2 219 = w ∧ zF S2 218 31 = (caS (cPar w lw a false false) k q.1).2 ∧ zF S2 218 32 = (caS (cPar w lw b false false) k q.2).2 := by
  have hh := has_csR q
  have two : ∀ T : PZ, XC S0 T → zA T 219 = w → zF T 218 31 = (caS (cPar w lw a false false) k q.1).2 → zF T 218 32 = q.2.2 → ∃ S2, J_X11_car_103 Θ K (gb Θ + 218) (nI a) (nI b) (csR q) (nI k) (csR q) (laz Θ T ω) n = J_X11_car_127 Θ K (gb Θ + 218) (nI a) (nI b) (csR q) (nI k) (csR q) (laz Θ S2 ω) n ∧ XC S0 S2 ∧ zA S2 219 = w ∧ zF S2 218 31 = (caS (cPar w lw a false false) k q.1).2 ∧ zF S2 218 32 = (caS (cPar w lw b false false) k q.2).2 := by
    intro T t1 t2 t3 t4
    unfold J_X11_car_103
    rw [m_has, kI_v, hh.2]
    by_cases z : q.2.1 = -1
    · obtain ⟨S1, e1, x1⟩ := m_carStep (Θ := Θ) (S := T) (ω := ω) (n := n) (lw := lw) (a := b) t2 hW hM hb hk g2
      have ec : (caS (cPar w lw b false false) k q.2).2 = rte (cPar w lw b false false) k q.2.2 0 := by unfold caS; rw [if_pos z]
      refine ⟨uF S1 218 32 (rte (cPar w lw b false false) k q.2.2 0), ?_, (t1.xp x1).nF (Or.inr rfl), ?_, ?_, ?_⟩
      · rw [if_pos z, if_pos rfl, a218_32, t4, d218, e1, kI_v, b218_32]
      · rw [zA_uF, x1.2.1 219 (by decide) (by decide) (by decide) (by decide)]; exact t2
      · rw [zF_ne _ _ (by omega), x1.1 218 31 (by omega)]; exact t3
      · rw [zF_eq, ec]
    · rw [if_neg z, if_neg (show ¬ (1 : Int32) = 0 by decide)]
      exact ⟨T, rfl, t1, t2, t3, by rw [caS_id z]; exact t4⟩
  unfold B_X11_car_69
  rw [if_neg (show ¬ (10 : Int32) ≤ nI k from nI_ge (b := 10) (by omega) (by omega)), m_has, kI_v, hh.1]
  by_cases z : q.1.1 = -1
  · obtain ⟨S1, e1, x1⟩ := m_carStep (Θ := Θ) (S := S) (ω := ω) (n := n) (lw := lw) (a := a) hw hW hM ha hk g1
    have ec : (caS (cPar w lw a false false) k q.1).2 = rte (cPar w lw a false false) k q.1.2 0 := by unfold caS; rw [if_pos z]
    rw [if_pos z, if_pos rfl, a218_31, h31, d218, e1, kI_v, b218_31]
    refine two _ ((xc.xp x1).nF (Or.inl rfl)) ?_ ?_ ?_
    · rw [zA_uF, x1.2.1 219 (by decide) (by decide) (by decide) (by decide)]; exact hw
    · rw [zF_eq, ec]
    · rw [zF_ne _ _ (by omega), x1.1 218 32 (by omega)]; exact h32
  · rw [if_neg z, if_neg (show ¬ (1 : Int32) = 0 by decide)]
    exact two S xc hw (by rw [caS_id z]; exact h31) h32
theorem m_car_L (hW : WB w) (hM : LawM w lw) (ha : a < 6) (hb : b < 6) : ∀ (m k f : Nat) (q : (Int32 × Int32) × (Int32 × Int32)) (S : PZ), k + m = 10 → m < f → XC S0 S → zA S 219 = w → zF S 218 31 = q.1.2 → zF S 218 32 = q.2.2 → Rg q.1.2 (402 * k) → Rg q.2.2 (402 * k) → ∃ S', L_X11_car_69 Θ f (gb Θ + 218) (nI a) (nI b) (csR q) (nI k) (laz Θ S ω) n = some (.inl (some (.int (csR (csL (cPar w lw a false false) (cPar w lw b false false) (w 6) m k q))), laz Θ S' ω, n)) ∧ XC S0 S' := by
  intro m
  induction m with
  | zero =>
    intro k f q S h1 h2 xc hw h31 h32 g1 g2
    obtain ⟨f, rfl⟩ : ∃ g, f = g + 1 := ⟨f - 1, by omega⟩
    refine ⟨S, ?_, xc⟩
    unfold L_X11_car_69 B_X11_car_69
    rw [if_pos (show (10 : Int32) ≤ nI k from nI_le (a := 10) (by omega) (by omega))]
    rfl
  | succ m ih =>
    intro k f q S h1 h2 xc hw h31 h32 g1 g2
    obtain ⟨f, rfl⟩ : ∃ g, f = g + 1 := ⟨f - 1, by omega⟩
    have hk : k < 10 := by omega
    have he : Rg (w 6) 20 := hW.2.2.2.2.2.1
    have hnk : ¬ nI k = -1 := by rw [q_m1 (by omega)]; exact id
    have gg := cst_rg (cPar_ok hW hM ha false false) (cPar_ok hW hM hb false false) he hk g1 g2 (by omega)
    have go : ∀ (T : PZ) (r : Int32) (q' : (Int32 × Int32) × (Int32 × Int32)), cst (cPar w lw a false false) (cPar w lw b false false) (w 6) k q = q' → XC S0 T → zA T 219 = w → zF T 218 31 = q'.1.2 → zF T 218 32 = q'.2.2 → r = csR q' → ∃ S', J_X11_car_278 Θ (L_X11_car_69 Θ f) (gb Θ + 218) (nI a) (nI b) r (nI k) (laz Θ T ω) n = some (.inl (some (.int (csR (csL (cPar w lw a false false) (cPar w lw b false false) (w 6) (m + 1) k q))), laz Θ S' ω, n)) ∧ XC S0 S' := by
      intro T r q' hq t1 t2 t3 t4 hr
      subst hq hr
      unfold J_X11_car_278
      rw [nI_1]
      exact ih (k + 1) f _ T (by omega) (by omega) t1 t2 t3 t4 (gg.1.le (by omega)) (gg.2.le (by omega))
    obtain ⟨S2, e2, x2, w2, f31, f32⟩ := m_car_two (Θ := Θ) (S := S) (S0 := S0) (ω := ω) (n := n) (K := L_X11_car_69 Θ f) (q := q) hW hM ha hb hk xc hw h31 h32 (g1.le (by omega)) (g2.le (by omega))
    rw [show L_X11_car_69 Θ (f + 1) (gb Θ + 218) (nI a) (nI b) (csR q) (nI k) (laz Θ S ω) n = B_X11_car_69 Θ (L_X11_car_69 Θ f) (gb Θ + 218) (nI a) (nI b) (csR q) (nI k) (laz Θ S ω) n from rfl, e2, m_car_127 ha hb, (has_csR q).1, (has_csR q).2, f31, f32, w2]
    have i1 : q.1.1 = -1 → ((caS (cPar w lw a false false) k q.1).2 ≤ w (4 * a + 42) ↔ (caS (cPar w lw a false false) k q.1).1 = -1) := fun z => caS_iff (c := cPar w lw a false false) hk z
    have i2 : q.2.1 = -1 → ((caS (cPar w lw b false false) k q.2).2 ≤ w (4 * b + 42) ↔ (caS (cPar w lw b false false) k q.2).1 = -1) := fun z => caS_iff (c := cPar w lw b false false) hk z
    have n1 : (cPar w lw a false false).2.2.2.2.1 = w (4 * a + 42) := rfl
    have n2 : (cPar w lw b false false).2.2.2.2.1 = w (4 * b + 42) := rfl
    have j1 : ¬ q.1.1 = -1 → caS (cPar w lw a false false) k q.1 = q.1 := fun z => caS_id z
    have j2 : ¬ q.2.1 = -1 → caS (cPar w lw b false false) k q.2 = q.2 := fun z => caS_id z
    unfold cst at go
    rw [n1, n2] at go
    generalize csL (cPar w lw a false false) (cPar w lw b false false) (w 6) (m + 1) k q = R at go ⊢
    generalize caS (cPar w lw a false false) k q.1 = A at *
    generalize caS (cPar w lw b false false) k q.2 = B at *
    have no : ¬ (1 : Int32) = 0 := by decide
    unfold J_X11_car_180
    by_cases z1 : q.1.1 = -1
    · by_cases z2 : q.2.1 = -1
      · rw [csR_00 z1 z2, if_pos z1, if_pos z2]
        by_cases y1 : A.1 = -1
        · by_cases y2 : B.1 = -1
          · rw [if_neg (fun (u : (0 : Int32) = 0 ∧ ¬ B.2 ≤ w (4 * b + 42)) => u.2 ((i2 z2).mpr y2)), if_neg (fun (u : (0 : Int32) = 0 ∧ ¬ A.2 ≤ w (4 * a + 42)) => u.2 ((i1 z1).mpr y1)), if_pos rfl, if_pos (by decide)]
            exact go S2 _ (A, B) (by rw [if_neg (fun u => u.1.2 y2), if_neg (fun u => u.1.2 y1)]) x2 w2 f31 f32 (by rw [csR_00 y1 y2]; decide)
          · rw [if_pos (⟨rfl, fun u => y2 ((i2 z2).mp u)⟩ : (0 : Int32) = 0 ∧ ¬ B.2 ≤ w (4 * b + 42)), if_neg (fun (u : (0 : Int32) = 0 ∧ ¬ A.2 ≤ w (4 * a + 42)) => u.2 ((i1 z1).mpr y1)), if_pos rfl, if_neg (by decide), if_neg (by decide), if_neg (by decide), a218_31, a218_1, lI_lit, l_219 (by decide), f31, w2, b218_31]
            have hB : ¬ B.2 ≤ w (4 * b + 42) := fun u => y2 ((i2 z2).mp u)
            unfold J_X11_car_240 J_X11_car_258 J_X11_car_275
            rw [a218_31, zF_eq, d218, m_screams ha, kI_v, zA_uF, w2]
            by_cases v : A.2 + w 6 ≤ w (4 * a + 42)
            · rw [if_pos v, if_pos rfl, a218_32, zF_ne _ _ (by omega), f32, d218, m_screams hb, kI_v, zA_uF, w2, if_neg hB, if_neg no]
              exact go _ _ ((-1, A.2 + w 6), B) (by rw [if_pos ⟨⟨z2, y2⟩, fun u => u.2 y1⟩, if_neg (fun u => u.2 ⟨z2, y2⟩)]; unfold heS; rw [if_pos y1, if_pos v]) (x2.nF (Or.inl rfl)) (by rw [zA_uF]; exact w2) (zF_eq _ _ _ _) (by rw [zF_ne _ _ (by omega)]; exact f32) (by rw [csR_01 rfl y2]; decide)
            · rw [if_neg v, if_neg no, a218_32, zF_ne _ _ (by omega), f32, d218, m_screams hb, kI_v, zA_uF, w2, if_neg hB, if_neg no]
              exact go _ _ ((nI k, A.2 + w 6), B) (by rw [if_pos ⟨⟨z2, y2⟩, fun u => u.2 y1⟩, if_neg (fun u => u.2 ⟨z2, y2⟩)]; unfold heS; rw [if_pos y1, if_neg v]) (x2.nF (Or.inl rfl)) (by rw [zA_uF]; exact w2) (zF_eq _ _ _ _) (by rw [zF_ne _ _ (by omega)]; exact f32) (by rw [csR_11 hnk y2]; decide)
        · have hA : ¬ A.2 ≤ w (4 * a + 42) := fun u => y1 ((i1 z1).mp u)
          by_cases y2 : B.1 = -1
          · rw [if_neg (fun (u : (0 : Int32) = 0 ∧ ¬ B.2 ≤ w (4 * b + 42)) => u.2 ((i2 z2).mpr y2)), if_pos (⟨rfl, hA⟩ : (0 : Int32) = 0 ∧ ¬ A.2 ≤ w (4 * a + 42)), if_pos rfl, if_neg (by decide), if_neg (by decide), if_pos (by decide), a218_32, a218_1, lI_lit, l_219 (by decide), f32, w2, b218_32]
            unfold J_X11_car_240 J_X11_car_258 J_X11_car_275
            rw [a218_31, zF_ne _ _ (by omega), f31, d218, m_screams ha, kI_v, zA_uF, w2, if_neg hA, if_neg no, a218_32, zF_eq, d218, m_screams hb, kI_v, zA_uF, w2]
            by_cases v : B.2 + w 6 ≤ w (4 * b + 42)
            · rw [if_pos v, if_pos rfl]
              exact go _ _ (A, (-1, B.2 + w 6)) (by rw [if_neg (fun u => u.1.2 y2), if_pos ⟨⟨z1, y1⟩, fun u => u.2 y2⟩]; unfold heS; rw [if_pos y2, if_pos v]) (x2.nF (Or.inr rfl)) (by rw [zA_uF]; exact w2) (by rw [zF_ne _ _ (by omega)]; exact f31) (zF_eq _ _ _ _) (by rw [csR_10 y1 rfl]; decide)
            · rw [if_neg v, if_neg no]
              exact go _ _ (A, (nI k, B.2 + w 6)) (by rw [if_neg (fun u => u.1.2 y2), if_pos ⟨⟨z1, y1⟩, fun u => u.2 y2⟩]; unfold heS; rw [if_pos y2, if_neg v]) (x2.nF (Or.inr rfl)) (by rw [zA_uF]; exact w2) (by rw [zF_ne _ _ (by omega)]; exact f31) (zF_eq _ _ _ _) (by rw [csR_11 y1 hnk]; decide)
          · have hB : ¬ B.2 ≤ w (4 * b + 42) := fun u => y2 ((i2 z2).mp u)
            rw [if_pos (⟨rfl, hB⟩ : (0 : Int32) = 0 ∧ ¬ B.2 ≤ w (4 * b + 42)), if_pos (⟨rfl, hA⟩ : (0 : Int32) = 0 ∧ ¬ A.2 ≤ w (4 * a + 42)), if_pos rfl, if_neg (by decide), if_pos (by decide)]
            exact go S2 _ (A, B) (by rw [if_neg (fun u => u.2 ⟨z1, y1⟩), if_neg (fun u => u.2 ⟨z2, y2⟩)]) x2 w2 f31 f32 (by rw [csR_11 y1 y2]; decide)
      · have hB := j2 z2
        subst hB
        rw [csR_01 z1 z2, if_pos z1, if_neg z2, if_neg (fun (u : (1 : Int32) = 0 ∧ ¬ q.2.2 ≤ w (4 * b + 42)) => no u.1), if_neg (show ¬ (2 : Int32) = 0 by decide)]
        by_cases y1 : A.1 = -1
        · rw [if_neg (fun (u : (0 : Int32) = 0 ∧ ¬ A.2 ≤ w (4 * a + 42)) => u.2 ((i1 z1).mpr y1))]
          exact go S2 _ (A, q.2) (by rw [if_neg (fun u => z2 u.1.1), if_neg (fun u => u.1.2 y1)]) x2 w2 f31 f32 (by rw [csR_01 (q := (A, q.2)) y1 z2]; decide)
        · rw [if_pos (⟨rfl, fun u => y1 ((i1 z1).mp u)⟩ : (0 : Int32) = 0 ∧ ¬ A.2 ≤ w (4 * a + 42))]
          exact go S2 _ (A, q.2) (by rw [if_neg (fun u => z2 u.1.1), if_pos ⟨⟨z1, y1⟩, fun u => z2 u.1⟩]; unfold heS; rw [if_neg z2]) x2 w2 f31 f32 (by rw [csR_11 (q := (A, q.2)) y1 z2]; decide)
    · have hA := j1 z1
      subst hA
      rw [if_neg z1, if_neg (fun (u : (1 : Int32) = 0 ∧ ¬ q.1.2 ≤ w (4 * a + 42)) => no u.1)]
      by_cases z2 : q.2.1 = -1
      · rw [csR_10 z1 z2, if_pos z2, if_neg no]
        by_cases y2 : B.1 = -1
        · rw [if_neg (fun (u : (0 : Int32) = 0 ∧ ¬ B.2 ≤ w (4 * b + 42)) => u.2 ((i2 z2).mpr y2))]
          exact go S2 _ (q.1, B) (by rw [if_neg (fun u => u.1.2 y2), if_neg (fun u => z1 u.1.1)]) x2 w2 f31 f32 (by rw [csR_10 (q := (q.1, B)) z1 y2]; decide)
        · rw [if_pos (⟨rfl, fun u => y2 ((i2 z2).mp u)⟩ : (0 : Int32) = 0 ∧ ¬ B.2 ≤ w (4 * b + 42))]
          exact go S2 _ (q.1, B) (by rw [if_pos ⟨⟨z2, y2⟩, fun u => z1 u.1⟩, if_neg (fun u => z1 u.1.1)]; unfold heS; rw [if_neg z1]) x2 w2 f31 f32 (by rw [csR_11 (q := (q.1, B)) z1 y2]; decide)
      · have hB := j2 z2
        subst hB
        rw [csR_11 z1 z2, if_neg z2, if_neg (fun (u : (1 : Int32) = 0 ∧ ¬ q.2.2 ≤ w (4 * b + 42)) => no u.1), if_neg (show ¬ (3 : Int32) = 0 by decide)]
        exact go S2 _ q (by rw [if_neg (fun u => z2 u.1.1), if_neg (fun u => z1 u.1.1)]) x2 w2 f31 f32 (by rw [csR_11 z1 z2]; decide)
end CD
