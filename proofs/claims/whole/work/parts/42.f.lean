/-! court, on the reference's side -/
def ctC (S : PZ) : PZ := uA S 221 (cpF (zA S 219) (zA S 221) 0 1154)
def ctE (Θ : GP) (ω : OW) (n : Nat) : RO := cO ω (gb Θ + 218) 11 (kI (F_X11_readAll Θ (gb Θ + 218) 1 ω n) (fun x18 ω n => if 0 ≤ x18 then (J_X11_court_46 Θ (gb Θ + 218) x18 (-1) (gb Θ + 218) ω n) else (rI ω (gb Θ + 218) 11 12 (fun x20 => J_X11_court_46 Θ (gb Θ + 218) x18 x20 (gb Θ + 218) ω n))))
def ctT (S : PZ) (w g : Nat → Int32) (p b : Nat) (fv kk : Int32) : PZ := uA (uF (uF (mT (uA (rdU (ctC S)) 219 g) p b) 218 14 fv) 218 0 kk) 219 w
def ctD (S : PZ) (w g : Nat → Int32) (p b : Nat) : PZ := uF (uA (uF (mT (uA (rdU (ctC S)) 219 g) p b) 218 14 (-1)) 219 w) 218 7 0
section CT
variable {Θ : GP} {S : PZ} {ω : OW} {n : Nat} {x : TX}
theorem m_court_L : ∀ (k p f : Nat) (g : Nat → Int32), p + k = 1154 → k < f → L_X11_court_2 Θ f (gb Θ + 218) (nI p) (laz Θ (uA S 221 g) ω) n = ctE Θ (laz Θ (uA S 221 (cpF (zA S 219) g p 1154)) ω) n := by
  intro k
  induction k with
  | zero =>
    intro p f g h2 h3
    obtain ⟨f, rfl⟩ : ∃ g, f = g + 1 := ⟨f - 1, by omega⟩
    unfold L_X11_court_2 B_X11_court_2 ctE
    rw [if_pos (show (1154 : Int32) ≤ nI p from nI_le (a := 1154) (by omega) (by omega)), cpF_end _ _ (by omega)]
  | succ k ih =>
    intro p f g h2 h3
    obtain ⟨f, rfl⟩ : ∃ g, f = g + 1 := ⟨f - 1, by omega⟩
    unfold L_X11_court_2 B_X11_court_2
    rw [if_neg (show ¬ (1154 : Int32) ≤ nI p from nI_ge (b := 1154) (by omega) (by omega)), a218_3, a218_1, l_219 (by omega), s_221 (by omega), uA_uA, nI_1, ih (p + 1) f _ (by omega) (by omega), zA_uA, if_pos rfl, zA_uA, if_neg (by decide), cpF_step _ _ (by omega)]
theorem m_court92_L : ∀ (k p f : Nat) (g : Nat → Int32), p + k = 1154 → k < f → L_X11_court_92 Θ f (gb Θ + 218) (nI p) (laz Θ (uA S 219 g) ω) n = some (.inl (some (.int 0), laz Θ (uA S 219 (cpF (zA S 221) g p 1154)) ω, n)) := by
  intro k
  induction k with
  | zero =>
    intro p f g h2 h3
    obtain ⟨f, rfl⟩ : ∃ g, f = g + 1 := ⟨f - 1, by omega⟩
    unfold L_X11_court_92 B_X11_court_92
    rw [if_pos (show (1154 : Int32) ≤ nI p from nI_le (a := 1154) (by omega) (by omega)), cpF_end _ _ (by omega)]
  | succ k ih =>
    intro p f g h2 h3
    obtain ⟨f, rfl⟩ : ∃ g, f = g + 1 := ⟨f - 1, by omega⟩
    unfold L_X11_court_92 B_X11_court_92
    rw [if_neg (show ¬ (1154 : Int32) ≤ nI p from nI_ge (b := 1154) (by omega) (by omega)), a218_1, a218_3, l_221 (by omega), s_219 (by omega), uA_uA, nI_1, ih (p + 1) f _ (by omega) (by omega), zA_uA, if_pos rfl, zA_uA, if_neg (by decide), cpF_step _ _ (by omega)]
theorem ct_back {g w h' : Nat → Int32} (hg : ∀ k, 305 ≤ k → g k = w k) : cpF (cpF w h' 0 1154) g 0 1154 = w := by
  funext k
  unfold cpF
  by_cases z : 0 ≤ k ∧ k < 1154
  · rw [if_pos z, if_pos z]
  · rw [if_neg z]; exact hg k (by omega)
theorem m_court90 {g : Nat → Int32} {p b : Nat} {fv kk : Int32} (hg : ∀ k, 305 ≤ k → g k = zA S 219 k) : J_X11_court_90 Θ (gb Θ + 218) (laz Θ (uF (uF (mT (uA (rdU (ctC S)) 219 g) p b) 218 14 fv) 218 0 kk) ω) n = some (.inl (some (.int 0), laz Θ (ctT S (zA S 219) g p b fv kk) ω, n)) := by
  unfold J_X11_court_90
  have e := m_court92_L (Θ := Θ) (S := uF (uF (mT (uA (rdU (ctC S)) 219 g) p b) 218 14 fv) 218 0 kk) (ω := ω) (n := n) 1154 0 5000 g (by omega) (by omega)
  have es : uA (uF (uF (mT (uA (rdU (ctC S)) 219 g) p b) 218 14 fv) 218 0 kk) 219 g = uF (uF (mT (uA (rdU (ctC S)) 219 g) p b) 218 14 fv) 218 0 kk := by
    have := uA_self (uF (uF (mT (uA (rdU (ctC S)) 219 g) p b) 218 14 fv) 218 0 kk) 219
    rw [show zA (uF (uF (mT (uA (rdU (ctC S)) 219 g) p b) 218 14 fv) 218 0 kk) 219 = g from zA_eq _ _ _] at this
    exact this
  rw [es, show zA (uF (uF (mT (uA (rdU (ctC S)) 219 g) p b) 218 14 fv) 218 0 kk) 221 = cpF (zA S 219) (zA S 221) 0 1154 from rfl, ct_back hg] at e
  exact e
theorem m_court (h : MTx (rdU (ctC S)) x) (hW : WB (zA S 219)) : ∃ p b, ((crA x (zA S 219)).2.2 = true → ¬ zA S 219 2 = 12 → F_X11_court Θ (gb Θ + 218) (laz Θ S ω) n = some (.inl (some (.int (zA S 219 2 + 1)), laz Θ (ctD S (upd (crA x (zA S 219)).2.1 2 (zA S 219 2 + 1)) (crA x (zA S 219)).2.1 p b) ω, n))) ∧
    ((crA x (zA S 219)).2.2 = true → zA S 219 2 = 12 → F_X11_court Θ (gb Θ + 218) (laz Θ S ω) n = some (.inl (some (.int 0), laz Θ (ctT S (zA S 219) (crA x (zA S 219)).2.1 p b (-1) 2) ω, n))) ∧
    ((crA x (zA S 219)).2.2 = false → F_X11_court Θ (gb Θ + 218) (laz Θ S ω) n = some (.inl (some (.int 0), laz Θ (ctT S (zA S 219) (crA x (zA S 219)).2.1 p b (nI (crA x (zA S 219)).1) 1) ω, n))) := by
  have e := m_court_L (Θ := Θ) (S := S) (ω := ω) (n := n) 1154 0 5000 (zA S 221) (by omega) (by omega)
  rw [uA_self, show uA S 221 (cpF (zA S 219) (zA S 221) 0 1154) = ctC S from rfl] at e
  have e : F_X11_court Θ (gb Θ + 218) (laz Θ S ω) n = _ := e
  have hc : zA (ctC S) 219 = zA S 219 := zA_ne _ _ (by decide)
  obtain ⟨p, b, v, r1, r2⟩ := m_readAll (Θ := Θ) (S := ctC S) (ω := ω) (n := n) h (by rw [hc]; exact hW)
  rw [hc] at r1 r2
  have ok := crA_ok (x := x) hW
  unfold ctE at e
  rw [d218, r1, kI_v] at e
  rw [e]
  have h2 := ok.2.2 2 (by omega)
  refine ⟨p, b, fun z y => ?_, fun z y => ?_, fun z => ?_⟩
  · rw [if_pos z] at r2
    obtain ⟨c, c1, rfl⟩ := r2
    unfold J_X11_court_46 J_X11_court_59 J_X11_court_83
    rw [if_pos (nI_pos' (by omega)), b218_14, if_pos (nI_pos' (by omega)), d218, m_throwsIf0, kI_v, if_pos rfl, a218_1, lI_lit, l_219 (by decide), show zA (uF (mT (uA (rdU (ctC S)) 219 (crA x (zA S 219)).2.1) p b) 218 14 (-1)) 219 = (crA x (zA S 219)).2.1 from zA_eq _ _ _, h2, if_neg y, d218, m_throwsIf0, kI_v, if_pos rfl, a218_1, lI_lit, l_219 (by decide), show zA (uF (mT (uA (rdU (ctC S)) 219 (crA x (zA S 219)).2.1) p b) 218 14 (-1)) 219 = (crA x (zA S 219)).2.1 from zA_eq _ _ _, h2, sI_lit, s_219 (by decide), b218_7, a218_1, lI_lit, l_219 (by decide)]
    rfl
  · rw [if_pos z] at r2
    obtain ⟨c, c1, rfl⟩ := r2
    unfold J_X11_court_46 J_X11_court_59 J_X11_court_83
    rw [if_pos (nI_pos' (by omega)), b218_14, if_pos (nI_pos' (by omega)), d218, m_throwsIf0, kI_v, if_pos rfl, a218_1, lI_lit, l_219 (by decide), show zA (uF (mT (uA (rdU (ctC S)) 219 (crA x (zA S 219)).2.1) p b) 218 14 (-1)) 219 = (crA x (zA S 219)).2.1 from zA_eq _ _ _, h2, if_pos y, d218, m_throwsIf1, kI_v, if_neg (show ¬ (1 : Int32) = 0 by decide)]
    exact m_court90 (fun k hk => ok.2.2 k (Or.inl hk))
  · rw [if_neg (by rw [z]; decide)] at r2
    obtain ⟨rfl, rfl⟩ := r2
    unfold J_X11_court_46 J_X11_court_59
    rw [if_neg (show ¬ (0 : Int32) ≤ -1 by decide), a218_12, mT_b, b218_14, if_neg (show ¬ (0 : Int32) ≤ -1 by decide), d218, m_throwsIf1, kI_v, if_neg (show ¬ (1 : Int32) = 0 by decide)]
    exact m_court90 (fun k hk => ok.2.2 k (Or.inl hk))
end CT
/-! what the reference leaves -/
section CX
variable {S : PZ} {w g : Nat → Int32} {p b : Nat} {fv kk : Int32}
theorem rdU_F {S : PZ} {k j : Nat} (h : ¬ (k = 218 ∧ (j = 0 ∨ 9 ≤ j ∧ j ≤ 16))) : zF (rdU S) k j = zF S k j := by
  unfold rdU
  rw [zF_ne _ _ (by omega), zF_ne _ _ (by omega), zF_ne _ _ (by omega), zF_ne _ _ (by omega), zF_ne _ _ (by omega)]
theorem ctT_F {k j : Nat} (h : ¬ (k = 218 ∧ (j = 0 ∨ 9 ≤ j ∧ j ≤ 16))) : zF (ctT S w g p b fv kk) k j = zF S k j := by
  unfold ctT
  rw [zF_uA, zF_ne _ _ (by omega), zF_ne _ _ (by omega), mT_ne _ _ _ (by omega), zF_uA, rdU_F h]
  rfl
theorem ctT_A {k : Nat} (h : k ≠ 219 ∧ k ≠ 221) : zA (ctT S w g p b fv kk) k = zA S k := by
  unfold ctT
  rw [zA_ne _ _ h.1]
  show zA (uA (rdU (ctC S)) 219 g) k = _
  rw [zA_ne _ _ h.1]
  exact zA_ne _ _ h.2
theorem ctD_F {k j : Nat} (h : ¬ (k = 218 ∧ (j = 0 ∨ j = 7 ∨ 9 ≤ j ∧ j ≤ 16))) : zF (ctD S w g p b) k j = zF S k j := by
  unfold ctD
  rw [zF_ne _ _ (by omega), zF_uA, zF_ne _ _ (by omega), mT_ne _ _ _ (by omega), zF_uA, rdU_F (by omega)]
  rfl
theorem ctD_A {k : Nat} (h : k ≠ 219 ∧ k ≠ 221) : zA (ctD S w g p b) k = zA S k := by
  unfold ctD
  rw [zA_uF, zA_ne _ _ h.1]
  show zA (uA (rdU (ctC S)) 219 g) k = _
  rw [zA_ne _ _ h.1]
  exact zA_ne _ _ h.2
end CX
