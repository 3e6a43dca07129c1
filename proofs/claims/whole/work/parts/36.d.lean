/-! a ride on the reference's side -/
def tkM (w : Nat → Int32) (tn : Int32) (s : Nat) : Int32 := if pin w (nI s) = -1 then -1 else if hasS tn (pin w (nI s)) = 0 then pin w (nI s) else -1
theorem w8_pin (w : Nat → Int32) (sd s : Int32) (h : cP w ≤ 8) : pin (upd w 8 sd) s = pin w s := pin_congr (upd_ne _ _ (by decide)) (fun q hq => by rw [upd_ne _ _ (by omega)])
theorem w8_fc (w : Nat → Int32) (sd : Int32) (p : Nat) (t nv kn dd : Int32) : fcS (upd w 8 sd) p t nv kn dd = fcS w p t nv kn dd := by
  unfold fcS
  rw [upd_ne _ _ (by omega), upd_ne _ _ (by omega), upd_ne _ _ (by omega), upd_ne _ _ (by omega)]
theorem w8_law {w : Nat → Int32} {lw : LW} (h : LawM w lw) (sd : Int32) : LawM (upd w 8 sd) lw := h.congr (fun k hk => upd_ne _ _ (by omega))
theorem w8_wb {w : Nat → Int32} (h : WB w) (sd : Int32) : WB (upd w 8 sd) := h.put (by omega) (by omega) (by omega) (by omega) (by omega) (fun p hp => ⟨by omega, by omega, by omega, by omega⟩) (fun a ha => ⟨by omega, by omega, by omega, by omega⟩)
theorem w8_self (w : Nat → Int32) : upd w 8 (w 8) = w := by
  funext k
  unfold upd
  split
  · rename_i h; rw [h]
  · rfl
theorem w8_w8 (w : Nat → Int32) (a b : Int32) : upd (upd w 8 a) 8 b = upd w 8 b := by
  funext k
  unfold upd
  split <;> rfl
/-- S' is as S but for what the reference's ride writes -/
def XQ (S S' : PZ) : Prop := (∀ k j, ¬ (k = 218 ∧ (j = 21 ∨ j = 22 ∨ j = 28 ∨ j = 29 ∨ j = 30)) → zF S' k j = zF S k j) ∧ (∀ k, k ≠ 219 → k ≠ 226 → k ≠ 227 → k ≠ 228 → k ≠ 229 → zA S' k = zA S k) ∧ (∀ k j, zR S' k j = zR S k j) ∧ (∀ k, zL S' k = zL S k)
theorem XQ.rf (S : PZ) : XQ S S := ⟨fun _ _ _ => rfl, fun _ _ _ _ _ _ => rfl, fun _ _ => rfl, fun _ => rfl⟩
theorem XQ.trans {S S' S'' : PZ} (h : XQ S S') (g : XQ S' S'') : XQ S S'' := ⟨fun k j q => (g.1 k j q).trans (h.1 k j q), fun k a b c d e => (g.2.1 k a b c d e).trans (h.2.1 k a b c d e), fun k j => (g.2.2.1 k j).trans (h.2.2.1 k j), fun k => (g.2.2.2 k).trans (h.2.2.2 k)⟩
theorem XQ.nF {S S' : PZ} (h : XQ S S') {j : Nat} {v : Int32} (q : j = 21 ∨ j = 22 ∨ j = 28 ∨ j = 29 ∨ j = 30) : XQ S (uF S' 218 j v) := by
  refine ⟨fun k i z => ?_, h.2.1, h.2.2.1, h.2.2.2⟩
  rw [zF_ne _ _ (by rintro ⟨rfl, rfl⟩; exact z ⟨rfl, q⟩), h.1 k i z]
theorem XQ.nA {S S' : PZ} (h : XQ S S') {k : Nat} {f : Nat → Int32} (q : k = 219 ∨ k = 226 ∨ k = 227 ∨ k = 228 ∨ k = 229) : XQ S (uA S' k f) := by
  refine ⟨h.1, fun a x y z u v => ?_, h.2.2.1, h.2.2.2⟩
  rw [zA_ne _ _ (by omega), h.2.1 a x y z u v]
/-- the reference stands ready for a ride of c -/
def MX (S : PZ) (c : RPar) : Prop := ROK c ∧ zF S 218 18 = c.2.2.2.2.2.2.1 ∧ zF S 218 19 = c.2.2.2.2.1 ∧ zF S 218 20 = c.2.2.2.2.2.1 ∧ (∀ s, s < 10 → c.2.2.1 s = tkM c.1 (zF S 218 23) s) ∧ (∀ p, p < 8 → (hasS (zF S 218 24) (nI p) = 1 ↔ c.2.2.2.1 p = true))
theorem MX.xq {S S' : PZ} {c : RPar} (h : MX S c) (x : XQ S S') : MX S' c := by
  obtain ⟨h1, h2, h3, h4, h5, h6⟩ := h
  obtain ⟨x1, x2, x3, x4⟩ := x
  exact ⟨h1, by rw [x1 _ _ (by omega)]; exact h2, by rw [x1 _ _ (by omega)]; exact h3, by rw [x1 _ _ (by omega)]; exact h4, by rw [x1 _ _ (by omega)]; exact h5, by rw [x1 _ _ (by omega)]; exact h6⟩
/-- what a step leaves -/
def MS1 (S S' : PZ) (c : RPar) (s : Nat) (t : Int32) (q : RSt) : Prop := XQ S S' ∧ zF S' 218 28 = q.1 ∧ zF S' 218 30 = q.2.1 ∧ zA S' 219 = upd c.1 8 q.2.2 ∧ zA S' 227 = upd (zA S 227) s q.2.1 ∧ zA S' 228 = upd (zA S 228) s (if c.2.2.1 s = -1 then 0 else rfr c s t) ∧ zF S' 218 29 = (if c.2.2.1 s = -1 then zF S 218 29 else zF S 218 29 ||| (1 <<< (c.2.2.1 s &&& 31))) ∧ zA S' 229 = (if c.2.2.1 s = -1 then zA S 229 else upd (zA S 229) (rpr c s) (weS c.2.1 (rfc c s t)))
section MR
variable {Θ : GP} {S : PZ} {ω : OW} {n : Nat} {c : RPar}
theorem m_propOn {w : Nat → Int32} (hw : zA S 219 = w) (h : WB w) (s : Nat) : F_X11_propOnTheWay Θ (gb Θ + 218) (nI s) (laz Θ S ω) n = some (.inl (some (.int (tkM w (zF S 218 23) s)), laz Θ S ω, n)) := by
  unfold F_X11_propOnTheWay J_X11_propOnTheWay_26 J_X11_propOnTheWay_27 tkM
  rw [d218, m_propIn' hw h, kI_v]
  by_cases z : pin w (nI s) = -1
  · rw [if_pos z, if_pos z, z]
  · rw [if_neg z, if_neg z, a218_23, m_has, kI_v]
    split <;> rfl
theorem m_calmer (t : Int32) : F_X11_calmer Θ (gb Θ + 218) t (laz Θ S ω) n = some (.inl (some (.int (cmx (t - zA S 219 5))), laz Θ S ω, n)) := by
  unfold F_X11_calmer
  rw [a218_1, lI_lit, l_219 (by decide)]
  rfl
theorem m_slotEnd {s : Nat} (hs : s < 10) {nv t : Int32} (te : Bool) (h19 : zF S 218 19 = nv) (h28 : zF S 218 28 = -1) (h30 : zF S 218 30 = t) : J_X11_rideSlot_55 Θ (gb Θ + 218) (nI s) (b01 te) (laz Θ S ω) n = some (.inl (none, laz Θ (uF (uA S 227 (upd (zA S 227) s t)) 218 28 (if ¬ t ≤ nv ∧ te = false then nI s else -1)) ω, n)) := by
  unfold J_X11_rideSlot_55 J_X11_rideSlot_85
  rw [a218_25, a218_30, h30, s_227 hs, a218_30, a218_19, zF_uA, zF_uA, h30, h19]
  have es : uF (uA S 227 (upd (zA S 227) s t)) 218 28 (-1) = uA S 227 (upd (zA S 227) s t) := by
    have := uF_self (uA S 227 (upd (zA S 227) s t)) 218 28
    rw [zF_uA, h28] at this
    exact this
  by_cases z : t ≤ nv
  · rw [if_pos z, if_neg (fun y => y.1 z), es]
  · rw [if_neg z]
    cases te with
    | true => rw [if_neg (by decide), if_neg (fun y => by cases y.2), es]
    | false => rw [if_pos (by decide), b218_28, if_pos ⟨z, rfl⟩]
theorem m_comesTo (h : MX S c) {s : Nat} (hs : s < 10) (hn : c.2.2.1 s ≠ -1) {t sd j : Int32} (ht : Rg t 10000) (h30 : zF S 218 30 = t) (hw : zA S 219 = upd c.1 8 sd) : ∃ S', F_X11_comesTo Θ (gb Θ + 218) (c.2.2.1 s) (nI s) j (laz Θ S ω) n = some (.inl (none, laz Θ S' ω, n)) ∧ XQ S S' ∧ zF S' 218 28 = zF S 218 28 ∧ zF S' 218 30 = t + (rfr c s t + j) ∧ zA S' 219 = zA S 219 ∧ zA S' 227 = zA S 227 ∧ zA S' 228 = upd (zA S 228) s (rfr c s t) ∧ zF S' 218 29 = zF S 218 29 ||| (1 <<< (c.2.2.1 s &&& 31)) ∧ zA S' 229 = upd (zA S 229) (rpr c s) (weS c.2.1 (rfc c s t)) := by
  obtain ⟨hO, h18, h19, h20, h23, h24⟩ := h
  have hP8 := hO.1.P8
  have hM := hO.2.1
  have hb := rfc_fb hO hs hn (ht.le (by omega))
  rcases hO.2.2.1 s hs with z | ⟨p, hp, e1, e2⟩
  · exact absurd z hn
  have er : rpr c s = p := by unfold rpr; rw [e1]; exact nI_clamp (by omega)
  have ef : fcS (zA S 219) p t c.2.2.2.2.1 c.2.2.2.2.2.1 c.2.2.2.2.2.2.1 = rfc c s t := by
    rw [hw, w8_fc]
    unfold rfc
    rw [er]
  obtain ⟨v1, x1⟩ := m_wearsBy (Θ := Θ) (S := S) (ω := ω) (n := n) (lw := c.2.1) (p := p) (t := t) (by omega) h19 h20 h18 (by rw [hw]; exact w8_law hM sd) (by rw [ef]; exact hb)
  rw [ef] at x1
  unfold F_X11_comesTo J_X11_comesTo_44
  rw [a218_27, a218_30, h30, d218, e1, x1, kI_v, s_229 (by omega), a218_26, a218_24, m_has, kI_v]
  have g24 : zF (uA (uA (uF (uF S 218 21 (nI p)) 218 22 t) 226 v1) 229 (upd (zA (uA (uF (uF S 218 21 (nI p)) 218 22 t) 226 v1) 229) p (weS c.2.1 (rfc c s t)))) 218 24 = zF S 218 24 := rfl
  rw [g24]
  have h24' := h24 p (by omega)
  have xq0 : XQ S (uA (uA (uF (uF S 218 21 (nI p)) 218 22 t) 226 v1) 229 (upd (zA (uA (uF (uF S 218 21 (nI p)) 218 22 t) 226 v1) 229) p (weS c.2.1 (rfc c s t)))) := ((((XQ.rf S).nF (by omega)).nF (by omega)).nA (by omega)).nA (by omega)
  rcases hasS_01 (zF S 218 24) (nI p) with y | y
  · have ee : rfr c s t = frS c.2.1 (rfc c s t) := by
      unfold rfr
      rw [er, if_neg (fun u => by rw [h24'.mpr u] at y; exact absurd y (by decide))]
    obtain ⟨v2, x2⟩ := m_frightsBy (Θ := Θ) (S := uA (uA (uF (uF S 218 21 (nI p)) 218 22 t) 226 v1) 229 (upd (zA (uA (uF (uF S 218 21 (nI p)) 218 22 t) 226 v1) 229) p (weS c.2.1 (rfc c s t)))) (ω := ω) (n := n) (lw := c.2.1) (p := p) (t := t) (by omega) h19 h20 h18 (by exact (show LawM (zA S 219) c.2.1 by rw [hw]; exact w8_law hM sd)) (by exact (show FB (fcS (zA S 219) p t c.2.2.2.2.1 c.2.2.2.2.2.1 c.2.2.2.2.2.2.1) by rw [ef]; exact hb))
    have ef' : fcS (zA (uA (uA (uF (uF S 218 21 (nI p)) 218 22 t) 226 v1) 229 (upd (zA (uA (uF (uF S 218 21 (nI p)) 218 22 t) 226 v1) 229) p (weS c.2.1 (rfc c s t)))) 219) p t c.2.2.2.2.1 c.2.2.2.2.2.1 c.2.2.2.2.2.2.1 = rfc c s t := ef
    rw [ef', ← ee] at x2
    have g30 : zF (uA (uA (uF (uF S 218 21 (nI p)) 218 22 t) 226 v1) 229 (upd (zA (uA (uF (uF S 218 21 (nI p)) 218 22 t) 226 v1) 229) p (weS c.2.1 (rfc c s t)))) 218 30 = t := h30
    rw [y, if_pos rfl, a218_30, g30, d218, x2, kI_v, s_228 hs, a218_29, b218_29, a218_30, a218_26, l_228 hs, b218_30]
    refine ⟨_, rfl, ((((((xq0.nF (by omega)).nF (by omega)).nA (by omega)).nA (by omega)).nF (by omega)).nF (by omega)), rfl, ?_, rfl, rfl, rfl, rfl, ?_⟩
    · rw [zF_eq, zA_uF, zA_eq, upd_same]
      show zF S 218 30 + _ = _
      rw [h30]
    · rw [er]; rfl
  · have ee : rfr c s t = 0 := by
      unfold rfr
      rw [er, if_pos (h24'.mp y)]
    rw [y, if_neg (by decide), s_228 hs, a218_29, b218_29, a218_30, a218_26, l_228 hs, b218_30]
    refine ⟨_, rfl, (((xq0.nA (by omega)).nF (by omega)).nF (by omega)), rfl, ?_, rfl, rfl, ?_, rfl, ?_⟩
    · rw [zF_eq, zA_uF, zA_eq, upd_same, ee]
      show zF S 218 30 + _ = _
      rw [h30]
    · rw [ee]; rfl
    · rw [er]; rfl
theorem m_rideSlot (h : MX S c) {s : Nat} (hs : s < 10) {t sd : Int32} (ht : Rg t 10000) (h28 : zF S 218 28 = -1) (h30 : zF S 218 30 = t) (hw : zA S 219 = upd c.1 8 sd) : ∃ S', F_X11_rideSlot Θ (gb Θ + 218) (nI s) (b01 c.2.2.2.2.2.2.2.1) (b01 c.2.2.2.2.2.2.2.2) (laz Θ S ω) n = some (.inl (none, laz Θ S' ω, n)) ∧ MS1 S S' c s t (rst1 c s (-1, t, sd)) := by
  have h' := h
  obtain ⟨hO, h18, h19, h20, h23, h24⟩ := h
  have hP8 := hO.1.P8
  have etk : tkM (upd c.1 8 sd) (zF S 218 23) s = c.2.2.1 s := by
    rw [h23 s hs]
    unfold tkM
    rw [w8_pin _ _ _ hP8.2]
  have er : rst1 c s (-1, t, sd) = (if ¬ rte c s t sd ≤ c.2.2.2.2.1 ∧ c.2.2.2.2.2.2.2.2 = false then nI s else -1, rte c s t sd, rsd c s sd) := by
    unfold rst1
    rw [if_pos rfl]
  rw [er]
  unfold F_X11_rideSlot J_X11_rideSlot_52
  rw [d218, m_propOn hw (w8_wb hO.1 sd), kI_v, etk, a218_26, s_228 hs]
  have xq0 : XQ S (uA S 228 (upd (zA S 228) s 0)) := (XQ.rf S).nA (by omega)
  by_cases z : c.2.2.1 s = -1
  · have et : rte c s t sd = cmx (t - c.1 5) := by unfold rte; rw [if_pos z]
    have es : rsd c s sd = sd := by unfold rsd; rw [if_pos z]
    have g5 : zA (uA S 228 (upd (zA S 228) s 0)) 219 5 = c.1 5 := by
      rw [zA_ne _ _ (show 219 ≠ 228 by decide), hw, upd_ne _ _ (by decide)]
    rw [if_pos z, a218_30, show zF (uA S 228 (upd (zA S 228) s 0)) 218 30 = t from h30, d218, m_calmer, kI_v, g5, ← et, b218_30]
    rw [m_slotEnd (S := uF (uA S 228 (upd (zA S 228) s 0)) 218 30 (rte c s t sd)) hs (nv := c.2.2.2.2.1) (t := rte c s t sd) c.2.2.2.2.2.2.2.2 h19 h28 rfl]
    refine ⟨_, rfl, ((xq0.nF (by omega)).nA (by omega)).nF (by omega), rfl, rfl, ?_, rfl, ?_, ?_, ?_⟩
    · show zA S 219 = _
      rw [hw, es]
    · show upd (zA S 228) s 0 = _
      rw [if_pos z]
    · show zF S 218 29 = _
      rw [if_pos z]
    · show zA S 229 = _
      rw [if_pos z]
  · have et : rte c s t sd = t + (rfr c s t + (if c.2.2.2.2.2.2.2.1 = true then joS sd else 1)) := by unfold rte; rw [if_neg z]
    have es : rsd c s sd = if c.2.2.2.2.2.2.2.1 = true then nxS sd else sd := by unfold rsd; rw [if_neg z]
    rw [if_neg z]
    cases hd : c.2.2.2.2.2.2.2.1 with
    | false =>
      rw [hd] at et es
      rw [if_neg (by decide)] at et es
      rw [if_pos (by decide), d218]
      obtain ⟨S1, e1, y1, y2, y3, y4, y5, y6, y7, y8⟩ := m_comesTo (Θ := Θ) (ω := ω) (n := n) (j := 1) (h'.xq xq0) hs z ht h30 (sd := sd) hw
      rw [e1, kV_v, m_slotEnd (S := S1) hs (nv := c.2.2.2.2.1) (t := rte c s t sd) c.2.2.2.2.2.2.2.2 ((xq0.trans y1).1 218 19 (by omega) ▸ h19) (y2.trans h28) (y3.trans et.symm)]
      refine ⟨_, rfl, ((xq0.trans y1).nA (by omega)).nF (by omega), rfl, ?_, ?_, ?_, ?_, ?_, ?_⟩
      · rw [zF_ne _ _ (by omega), zF_uA, y3, et]
      · rw [zA_uF, zA_ne _ _ (by decide), y4, es]; exact hw
      · rw [zA_uF, zA_eq, y5]; rfl
      · rw [zA_uF, zA_ne _ _ (by decide), y6, zA_eq, if_neg z]
        funext k
        unfold upd
        split <;> rfl
      · rw [zF_ne _ _ (by omega), zF_uA, y7, if_neg z]; rfl
      · rw [zA_uF, zA_ne _ _ (by decide), y8, if_neg z]; rfl
    | true =>
      rw [hd] at et es
      rw [if_pos rfl] at et es
      rw [if_neg (by decide), d218]
      unfold F_X11_drawn
      have g8 : zA (uA S 228 (upd (zA S 228) s 0)) 219 8 = sd := by
        rw [zA_ne _ _ (show 219 ≠ 228 by decide), hw, upd_same]
      have n3 : ∀ r : RO, nz 3 r = r := fun r => if_neg (by decide)
      rw [a218_1, a218_1, lI_lit, l_219 (by decide), sI_lit, s_219 (by decide), a218_1, lI_lit, l_219 (by decide), n3, kI_v, d218]
      have hw2 : zA (uA (uA S 228 (upd (zA S 228) s 0)) 219 (upd (zA (uA S 228 (upd (zA S 228) s 0)) 219) 8 (1103515245 * zA (uA S 228 (upd (zA S 228) s 0)) 219 8 + 12345))) 219 = upd c.1 8 (nxS sd) := by
        rw [zA_eq, g8, zA_ne _ _ (show 219 ≠ 228 by decide), hw, w8_w8]
        rfl
      have g9 : zA (uA (uA S 228 (upd (zA S 228) s 0)) 219 (upd (zA (uA S 228 (upd (zA S 228) s 0)) 219) 8 (1103515245 * zA (uA S 228 (upd (zA S 228) s 0)) 219 8 + 12345))) 219 8 = nxS sd := by rw [hw2, upd_same]
      have xq1 : XQ S (uA (uA S 228 (upd (zA S 228) s 0)) 219 (upd (zA (uA S 228 (upd (zA S 228) s 0)) 219) 8 (1103515245 * zA (uA S 228 (upd (zA S 228) s 0)) 219 8 + 12345))) := xq0.nA (by omega)
      have f28 : zF (uA (uA S 228 (upd (zA S 228) s 0)) 219 (upd (zA (uA S 228 (upd (zA S 228) s 0)) 219) 8 (1103515245 * zA (uA S 228 (upd (zA S 228) s 0)) 219 8 + 12345))) 218 28 = -1 := h28
      have f30 : zF (uA (uA S 228 (upd (zA S 228) s 0)) 219 (upd (zA (uA S 228 (upd (zA S 228) s 0)) 219) 8 (1103515245 * zA (uA S 228 (upd (zA S 228) s 0)) 219 8 + 12345))) 218 30 = t := h30
      have f29 : zF (uA (uA S 228 (upd (zA S 228) s 0)) 219 (upd (zA (uA S 228 (upd (zA S 228) s 0)) 219) 8 (1103515245 * zA (uA S 228 (upd (zA S 228) s 0)) 219 8 + 12345))) 218 29 = zF S 218 29 := rfl
      have f227 : zA (uA (uA S 228 (upd (zA S 228) s 0)) 219 (upd (zA (uA S 228 (upd (zA S 228) s 0)) 219) 8 (1103515245 * zA (uA S 228 (upd (zA S 228) s 0)) 219 8 + 12345))) 227 = zA S 227 := rfl
      have f228 : zA (uA (uA S 228 (upd (zA S 228) s 0)) 219 (upd (zA (uA S 228 (upd (zA S 228) s 0)) 219) 8 (1103515245 * zA (uA S 228 (upd (zA S 228) s 0)) 219 8 + 12345))) 228 = upd (zA S 228) s 0 := rfl
      have f229 : zA (uA (uA S 228 (upd (zA S 228) s 0)) 219 (upd (zA (uA S 228 (upd (zA S 228) s 0)) 219) 8 (1103515245 * zA (uA S 228 (upd (zA S 228) s 0)) 219 8 + 12345))) 229 = zA S 229 := rfl
      generalize uA (uA S 228 (upd (zA S 228) s 0)) 219 (upd (zA (uA S 228 (upd (zA S 228) s 0)) 219) 8 (1103515245 * zA (uA S 228 (upd (zA S 228) s 0)) 219 8 + 12345)) = S0 at hw2 g9 xq1 f28 f30 f29 f227 f228 f229 ⊢
      rw [g9]
      rw [show ((nxS sd >>> ((16 : Int32) &&& 31)) &&& 32767) - ((nxS sd >>> ((16 : Int32) &&& 31)) &&& 32767) / 3 * 3 = joS sd from rfl]
      obtain ⟨S1, e1, y1, y2, y3, y4, y5, y6, y7, y8⟩ := m_comesTo (Θ := Θ) (ω := ω) (n := n) (j := joS sd) (h'.xq xq1) hs z ht f30 (sd := nxS sd) hw2
      rw [e1, kV_v, m_slotEnd (S := S1) hs (nv := c.2.2.2.2.1) (t := rte c s t sd) c.2.2.2.2.2.2.2.2 ((xq1.trans y1).1 218 19 (by omega) ▸ h19) (y2.trans f28) (y3.trans et.symm)]
      refine ⟨_, rfl, ((xq1.trans y1).nA (by omega)).nF (by omega), rfl, ?_, ?_, ?_, ?_, ?_, ?_⟩
      · rw [zF_ne _ _ (by omega), zF_uA, y3, et]
      · rw [zA_uF, zA_ne _ _ (by decide), y4, es]; exact hw2
      · rw [zA_uF, zA_eq, y5, f227]
      · rw [zA_uF, zA_ne _ _ (by decide), y6, f228, if_neg z]
        funext k
        unfold upd
        split <;> rfl
      · rw [zF_ne _ _ (by omega), zF_uA, y7, f29, if_neg z]
      · rw [zA_uF, zA_ne _ _ (by decide), y8, f229, if_neg z]
end MR
