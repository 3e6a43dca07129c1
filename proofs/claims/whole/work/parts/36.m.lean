/-! worn on: the class's end, the reference's way -/
/-- ten, not to be counted down -/
noncomputable def ten : Nat := Classical.choose (⟨10, rfl⟩ : ∃ k : Nat, k = 10)
theorem ten_eq : ten = 10 := Classical.choose_spec (⟨10, rfl⟩ : ∃ k : Nat, k = 10)
theorem ten_le : ten ≤ 10 := Nat.le_of_eq ten_eq
theorem wkS_hi {c : RPar} (h : ROK c) (q : RSt) {i : Nat} (hi : 4 * cP c.1 + 11 ≤ i) : ∀ k, k ≤ 10 → wkS c q k i = c.1 i := by
  intro k
  induction k with
  | zero => intro _; rfl
  | succ k ih =>
    intro hk
    unfold wkS
    split
    · rename_i z
      have := (h.pr (show k < 10 by omega) z.2).1
      rw [upd_ne _ _ (by omega), ih (by omega)]
    · exact ih (by omega)
/-- c behind its wear -/
noncomputable def cW (c : RPar) (q : RSt) : RPar := (wkS c q ten, c.2.1, c.2.2.1, c.2.2.2.1, c.2.2.2.2.1, c.2.2.2.2.2.1 ||| cmB c q ten, c.2.2.2.2.2.2)
theorem cmB_stop {c : RPar} {q : RSt} {k : Nat} (z : (rst c q k).1 ≠ -1) : ∀ m, cmB c q (k + m) = cmB c q k := by
  intro m
  induction m with
  | zero => rfl
  | succ m ih =>
    have es : rst c q (k + m) = rst c q k := rst_stop c q z m
    show (if (rst c q (k + m)).1 = -1 ∧ c.2.2.1 (k + m) ≠ -1 then _ else cmB c q (k + m)) = _
    rw [if_neg (by rw [es]; exact fun v => z v.1), ih]
section WP
variable {Θ : GP} {S S0 : PZ} {ω : OW} {n : Nat} {c : RPar}
theorem x_wear2 (hO : ROK c) {q : RSt} (h0 : q.2.1 = 0) (hb : ∀ j, j < 10 → zA S 205 j = bhS c q j) (ht : ∀ j, j < 10 → zA S 203 j = c.2.2.1 j) {kn : Int32} : ∀ (m k f : Nat), k + m = 10 → m < f → L_X6_wearOn_84 Θ f (gb Θ + 202) (nI k) (laz Θ (uF S 202 5 (kn ||| cmB c q k)) ω) n = some (.inl (none, laz Θ (uF S 202 5 (kn ||| cmB c q ten)) ω, n)) := by
  have h8 := hO.1.P8
  intro m
  induction m with
  | zero =>
    intro k f h1 h2
    obtain ⟨f, rfl⟩ : ∃ g, f = g + 1 := ⟨f - 1, by omega⟩
    have : k = 10 := by omega
    subst this
    unfold L_X6_wearOn_84 B_X6_wearOn_84 J_X6_wearOn_136
    rw [if_pos (by decide), ten_eq]
  | succ m ih =>
    intro k f h1 h2
    obtain ⟨f, rfl⟩ : ∃ g, f = g + 1 := ⟨f - 1, by omega⟩
    have hk : k < 10 := by omega
    have hi := ih (k + 1) f (by omega) (by omega)
    unfold L_X6_wearOn_84 B_X6_wearOn_84 J_X6_wearOn_136 J_X6_wearOn_126
    rw [if_neg (show ¬ (10 : Int32) ≤ nI k from nI_ge (b := 10) (by omega) (by omega)), a202_10, l_205 hk]
    show (if zA S 205 k = -1 then _ else _) = _
    rw [hb k hk]
    by_cases z : (rst c q k).1 = -1
    · rw [if_neg (fun y => (bhS_go hO h0 hk).mp y z), a202_5, zF_eq, a202_1, l_203 hk]
      show (if zA S 203 k < 0 then _ else _) = _
      rw [ht k hk]
      by_cases y : c.2.2.1 k = -1
      · have e : cmB c q (k + 1) = cmB c q k := by
          show (if (rst c q k).1 = -1 ∧ c.2.2.1 k ≠ -1 then _ else cmB c q k) = _
          rw [if_neg (fun u => u.2 y)]
        rw [y, if_pos (by decide), b202_5, uF_uF, Int32.or_zero, nI_1, ← e]
        exact hi
      · obtain ⟨p1, p2, p3⟩ := hO.pr hk y
        have e : cmB c q (k + 1) = cmB c q k ||| (1 <<< (c.2.2.1 k &&& 31)) := by
          show (if (rst c q k).1 = -1 ∧ c.2.2.1 k ≠ -1 then _ else cmB c q k) = _
          rw [if_pos ⟨z, y⟩]
        rw [if_neg (by rw [p2]; exact nI_pos (by omega)), a202_1, l_203 hk, b202_5, uF_uF, nI_1]
        show L_X6_wearOn_84 Θ f (gb Θ + 202) (nI (k + 1)) (laz Θ (uF S 202 5 (kn ||| cmB c q k ||| 1 <<< (zA S 203 k &&& 31))) ω) n = _
        rw [ht k hk, Int32.or_assoc, ← e]
        exact hi
    · rw [if_pos ((bhS_go hO h0 hk).mpr z)]
      have e := cmB_stop z (10 - k)
      rw [show k + (10 - k) = 10 by omega] at e
      rw [ten_eq, e]
theorem cW_ok (hO : ROK c) (q : RSt) : ROK (cW c q) := by
  obtain ⟨h1, h2, h3, h4⟩ := cK_ok hO q (k := ten) ten_le
  have h1 : WB (wkS c q ten) := h1
  have h2 : LawM (wkS c q ten) c.2.1 := h2
  have h3 : ∀ s, s < 10 → c.2.2.1 s = -1 ∨ ∃ p, p < cP (wkS c q ten) ∧ c.2.2.1 s = nI p ∧ wkS c q ten (4 * p + 12) = nI s := h3
  have h4 : Rg c.2.2.2.2.1 60 := h4
  show WB (wkS c q ten) ∧ LawM (wkS c q ten) c.2.1 ∧ (∀ s, s < 10 → c.2.2.1 s = -1 ∨ ∃ p, p < cP (wkS c q ten) ∧ c.2.2.1 s = nI p ∧ wkS c q ten (4 * p + 12) = nI s) ∧ Rg c.2.2.2.2.1 60
  exact ⟨h1, h2, h3, h4⟩
/-- the class's ride is worn on -/
theorem x_wearOn (hX : RX Θ S ω 202 c) {q : RSt} (h0 : q.2.1 = 0) (h1 : q.1 = -1) (hb : ∀ j, j < 10 → zA S 205 j = bhS c q j) : ∃ S', F_X6_wearOn Θ (gb Θ + 202) (laz Θ S ω) n = some (.inl (none, laz Θ S' ω, n)) ∧ XL 202 S S' ∧ (∀ j, j ≠ 5 → zF S' 202 j = zF S 202 j) ∧ RX Θ S' ω 202 (cW c q) ∧ (∀ p, p < cP c.1 → zA S' 204 p = wkS c q ten (4 * p + 11)) ∧ zF S' 202 5 = c.2.2.2.2.2.1 ||| cmB c q ten := by
  have hO := hX.1
  obtain ⟨S1, e, ⟨rx, hb1⟩, xl, hf⟩ := x_wear1 (Θ := Θ) (S0 := S) (ω := ω) (n := n) hO h0 10 0 5000 S (by omega) (by omega) ⟨hX, hb⟩ (XL.rf 202 S) (fun _ => rfl)
  have rx : RX Θ S1 ω 202 (cK c q ten) := by rw [ten_eq]; exact rx
  obtain ⟨r1, r2, r3, r4, r5, r6, r7, r8, r9⟩ := rx
  have r2 : ∃ told, LawX Θ ω (zR S1 14 17) told c.2.1 := r2
  have r3 : zF S1 14 3 = wkS c q ten 5 := r3
  have r4 : ∀ p, p < cP (wkS c q ten) → zA S1 15 p = wkS c q ten (4 * p + 9) ∧ zA S1 16 p = wkS c q ten (4 * p + 10) ∧ zA S1 204 p = wkS c q ten (4 * p + 11) := r4
  have r5 : ∀ s, s < 10 → zA S1 203 s = c.2.2.1 s := r5
  have r6 : zF S1 202 3 = c.2.2.2.2.2.2.1 := r6
  have r7 : zF S1 202 4 = c.2.2.2.2.1 := r7
  have r8 : zF S1 202 5 = c.2.2.2.2.2.1 := r8
  have r9 : ∀ p, p < 8 → (nI p = zF S1 202 6 ↔ c.2.2.2.1 p = true) := r9
  have eP := wkS_cP c q ten
  have e : L_X6_wearOn_4 Θ 5000 (gb Θ + 202) q.2.1 (nI 0) (laz Θ S ω) n = L_X6_wearOn_84 Θ 5000 (gb Θ + 202) 0 (laz Θ S1 ω) n := e
  rw [h0] at e
  have e2 := x_wear2 (Θ := Θ) (S := S1) (ω := ω) (n := n) hO h0 hb1 r5 (kn := c.2.2.2.2.2.1) 10 0 5000 (by omega) (by omega)
  rw [show cmB c q 0 = 0 from rfl, Int32.or_zero, ← r8, uF_self, r8] at e2
  have hk := cW_ok hO q
  unfold cW at hk
  show ∃ S', F_X6_wearOn Θ (gb Θ + 202) (laz Θ S ω) n = _ ∧ XL 202 S S' ∧ (∀ j, j ≠ 5 → zF S' 202 j = zF S 202 j) ∧ RX Θ S' ω 202 (wkS c q ten, c.2.1, c.2.2.1, c.2.2.2.1, c.2.2.2.2.1, c.2.2.2.2.2.1 ||| cmB c q ten, c.2.2.2.2.2.2) ∧ (∀ p, p < cP c.1 → zA S' 204 p = wkS c q ten (4 * p + 11)) ∧ zF S' 202 5 = c.2.2.2.2.2.1 ||| cmB c q ten
  generalize wkS c q ten = W at *
  generalize cmB c q ten = B at *
  refine ⟨uF S1 202 5 (c.2.2.2.2.2.1 ||| B), e.trans e2, xl.nF, fun j hj => by rw [zF_ne _ _ (by omega)]; exact hf j, ⟨hk, r2, ?_, r4, r5, ?_, ?_, zF_eq _ _ _ _, ?_⟩, fun p hp => (r4 p (by rw [eP]; exact hp)).2.2, zF_eq _ _ _ _⟩
  · rw [zF_ne _ _ (by omega)]; exact r3
  · rw [zF_ne _ _ (by omega)]; exact r6
  · rw [zF_ne _ _ (by omega)]; exact r7
  · intro p hp; rw [zF_ne _ _ (by omega)]; exact r9 p hp
/-- the world while the reference wears the first k props -/
def miS (u t : Nat → Int32) (k : Nat) : Nat → Int32 := fun i => if i % 4 = 3 ∧ 11 ≤ i ∧ i < 4 * k + 11 then t i else u i
theorem miS_ne (u t : Nat → Int32) (k : Nat) {i : Nat} (h : i % 4 ≠ 3 ∨ i < 11 ∨ 4 * k + 11 ≤ i) : miS u t k i = u i := by
  unfold miS; rw [if_neg (by omega)]
theorem miS_y (u t : Nat → Int32) (k : Nat) : upd (miS u t k) (4 * k + 11) (t (4 * k + 11)) = miS u t (k + 1) := by
  funext i
  unfold upd
  by_cases z : i = 4 * k + 11
  · subst z; rw [if_pos rfl]; unfold miS; rw [if_pos (by omega)]
  · rw [if_neg z]; unfold miS
    by_cases y : i % 4 = 3 ∧ 11 ≤ i ∧ i < 4 * k + 11
    · rw [if_pos y, if_pos (by omega)]
    · rw [if_neg y, if_neg (by omega)]
theorem miS_n (u t : Nat → Int32) {k : Nat} (h : t (4 * k + 11) = u (4 * k + 11)) : miS u t (k + 1) = miS u t k := by
  rw [← miS_y, h]
  funext i
  unfold upd
  by_cases z : i = 4 * k + 11
  · subst z; rw [if_pos rfl, miS_ne _ _ _ (by omega)]
  · rw [if_neg z]
theorem m_lays_L (hO : ROK c) {q : RSt} {u : Nat → Int32} (hu : ∀ p, p < cP c.1 → u (4 * p + 11) = c.1 (4 * p + 11)) (hu0 : u 0 = c.1 0) (h29 : zF S 218 29 = cmB c q ten) (hwo : woS c q (zA S 229) 10) : ∀ (m k f : Nat), k + m = cP c.1 → m < f → L_X11_laysOn_19 Θ f (gb Θ + 218) (nI k) (laz Θ (uA S 219 (miS u (wkS c q ten) k)) ω) n = some (.inl (none, laz Θ (uA S 219 (miS u (wkS c q ten) (cP c.1))) ω, n)) := by
  have h8 := hO.1.P8
  intro m
  induction m with
  | zero =>
    intro k f h1 h2
    obtain ⟨f, rfl⟩ : ∃ g, f = g + 1 := ⟨f - 1, by omega⟩
    have e0 : zA (uA S 219 (miS u (wkS c q ten) k)) 219 0 = nI (cP c.1) := by rw [zA_eq, miS_ne _ _ _ (by omega), hu0]; exact h8.1
    unfold L_X11_laysOn_19 B_X11_laysOn_19
    rw [d218, m_props, kI_v, e0, if_pos (nI_le (by omega) (by omega)), show k = cP c.1 by omega]
  | succ m ih =>
    intro k f h1 h2
    obtain ⟨f, rfl⟩ : ∃ g, f = g + 1 := ⟨f - 1, by omega⟩
    have e0 : zA (uA S 219 (miS u (wkS c q ten) k)) 219 0 = nI (cP c.1) := by rw [zA_eq, miS_ne _ _ _ (by omega), hu0]; exact h8.1
    have hi := ih (k + 1) f (by omega) (by omega)
    have hk : k < 8 := by omega
    have e11 : zA (uA S 219 (miS u (wkS c q ten) k)) 219 (4 * k + 11) = c.1 (4 * k + 11) := by rw [zA_eq, miS_ne _ _ _ (by omega), hu k (by omega)]
    unfold L_X11_laysOn_19 B_X11_laysOn_19 J_X11_laysOn_66
    rw [d218, m_props, kI_v, e0, if_neg (nI_ge (by omega) (by omega)), a218_29]
    show kI (F_X11_has Θ (zF S 218 29) (nI k) _ n) _ = _
    rw [h29, m_has, kI_v]
    by_cases z : bt (cmB c q ten) k = true
    · obtain ⟨s, b1, b2, b3⟩ := (cmB_bt hO q ten ten_le k hk).mp z
      have ey := wkS_yes hO q b2 ten b1 ten_le
      rw [b3] at ey
      have ew := hwo s (by rw [← ten_eq]; exact b1) b2.1 b2.2
      rw [b3] at ew
      rw [(hasS_bt (by omega)).mpr z, if_neg (by decide), a218_1]
      unfold F_X11_propAt
      rw [kI_v, ixp2, d218, m_ofProp2 (by omega), kI_v, e11, a218_27, l_229 (by omega)]
      show sI (laz Θ (uA S 219 _) ω) (gI Θ) _ _ (if c.1 (4 * k + 11) + zA S 229 k < 99 then c.1 (4 * k + 11) + zA S 229 k else 99) _ = _
      rw [ew, s_219 (by omega), uA_uA, zA_eq, nI_1]
      unfold m99 at ey
      rw [← ey, miS_y]
      exact hi
    · have en := wkS_no (c := c) q (p := k) ten (fun s hs hc y => z ((cmB_bt hO q ten ten_le k hk).mpr ⟨s, hs, hc, y⟩))
      have eh : hasS (cmB c q ten) (nI k) = 0 := by
        rcases hasS_01 (cmB c q ten) (nI k) with y | y
        · exact y
        · exact absurd ((hasS_bt (by omega)).mp y) z
      rw [eh, if_pos rfl, nI_1, ← miS_n u (wkS c q ten) (k := k) (by rw [en, hu k (by omega)])]
      exact hi
/-- the world behind one's wear -/
noncomputable def wW (c : RPar) (q : RSt) (a : Nat) (sd : Int32) : Nat → Int32 := upd (upd (wkS c q ten) 8 sd) (4 * a + 43) (c.1 (4 * a + 43) ||| cmB c q ten)
theorem m_laysOn (hO : ROK c) {q : RSt} {sd : Int32} (hw : zA S 219 = upd c.1 8 sd) (h29 : zF S 218 29 = cmB c q ten) (hwo : woS c q (zA S 229) 10) {a : Nat} (ha : a < 6) : F_X11_laysOn Θ (gb Θ + 218) (nI a) (laz Θ S ω) n = some (.inl (none, laz Θ (uA S 219 (wW c q a sd)) ω, n)) := by
  have h8 := hO.1.P8
  unfold F_X11_laysOn F_X11_oneAt
  rw [a218_1, kI_v, ixa2, l_219 (by omega), a218_29, s_219 (by omega), h29, hw, upd_ne _ _ (show 4 * a + 43 ≠ 8 by omega)]
  have e := m_lays_L (Θ := Θ) (S := S) (ω := ω) (n := n) hO (q := q) (u := upd (upd c.1 8 sd) (4 * a + 43) (c.1 (4 * a + 43) ||| cmB c q ten)) (fun p hp => by rw [upd_ne _ _ (by omega), upd_ne _ _ (by omega)]) (by rw [upd_ne _ _ (by omega), upd_ne _ _ (by omega)]) h29 hwo (cP c.1) 0 5000 (by omega) (by omega)
  rw [show miS (upd (upd c.1 8 sd) (4 * a + 43) (c.1 (4 * a + 43) ||| cmB c q ten)) (wkS c q ten) 0 = upd (upd c.1 8 sd) (4 * a + 43) (c.1 (4 * a + 43) ||| cmB c q ten) from funext fun i => miS_ne _ _ _ (by omega)] at e
  refine e.trans ?_
  rw [show miS (upd (upd c.1 8 sd) (4 * a + 43) (c.1 (4 * a + 43) ||| cmB c q ten)) (wkS c q ten) (cP c.1) = wW c q a sd from ?_]
  funext i
  unfold miS wW upd
  by_cases z : i % 4 = 3 ∧ 11 ≤ i ∧ i < 4 * cP c.1 + 11
  · rw [if_pos z, if_neg (show ¬ i = 4 * a + 43 by omega), if_neg (show ¬ i = 8 by omega)]
  · rw [if_neg z]
    have e2 : wkS c q ten i = c.1 i := by
      by_cases y : 4 * cP c.1 + 11 ≤ i
      · exact wkS_hi hO q y ten ten_le
      · exact wkS_ne4 c q (by omega) ten
    rw [e2]
end WP
