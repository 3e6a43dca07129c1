/-! two in one car: a slot of one, the other's ride unmoved -/
/-- one's slot: where the scream is, tense -/
def caS (c : RPar) (s : Nat) (q : Int32 × Int32) : Int32 × Int32 := if q.1 = -1 then (if rte c s q.2 0 ≤ c.2.2.2.2.1 then -1 else nI s, rte c s q.2 0) else q
/-- the ride R is so far; straight, not to the end -/
def CX (Θ : GP) (S : PZ) (ω : OW) (R : Nat) (c : RPar) (q : Int32 × Int32) : Prop := RX Θ S ω R c ∧ zF S R 8 = q.1 ∧ zF S R 9 = q.2 ∧ zF S R 12 = 0 ∧ zF S R 13 = 0
section CB
variable {Θ : GP} {S S' : PZ} {ω : OW} {n : Nat} {R Q : Nat} {c d : RPar}
theorem CX.other (hR : isR R) (hQ : isR Q) (hne : R ≠ Q) {q : Int32 × Int32} (h : CX Θ S ω Q c q) (x : XR R S S') : CX Θ S' ω Q c q := by
  obtain ⟨⟨r1, r2, r3, r4, r5, r6, r7, r8, r9⟩, h8, h9, h12, h13⟩ := h
  have hk : ∀ j, zF S' Q j = zF S Q j := fun j => x.1 Q j (fun y => hne y.1.symm)
  have hb : ∀ k, k ≠ R + 3 → k ≠ R + 4 → k ≠ R + 5 → zA S' k = zA S k := x.2.1
  have hRQ : (R = 202 ∧ Q = 208) ∨ (R = 208 ∧ Q = 202) := by
    rcases hR with rfl | rfl <;> rcases hQ with rfl | rfl
    · exact absurd rfl hne
    · exact Or.inl ⟨rfl, rfl⟩
    · exact Or.inr ⟨rfl, rfl⟩
    · exact absurd rfl hne
  refine ⟨⟨r1, by rw [x.2.2.1]; exact r2, by rw [x.1 14 3 (by omega)]; exact r3, fun p hp => ?_, fun s hs => ?_, by rw [hk]; exact r6, by rw [hk]; exact r7, by rw [hk]; exact r8, fun p hp => by rw [hk]; exact r9 p hp⟩, by rw [hk]; exact h8, by rw [hk]; exact h9, by rw [hk]; exact h12, by rw [hk]; exact h13⟩
  · rw [hb 15 (by omega) (by omega) (by omega), hb 16 (by omega) (by omega) (by omega), hb (Q + 2) (by omega) (by omega) (by omega)]; exact r4 p hp
  · rw [hb (Q + 1) (by omega) (by omega) (by omega)]; exact r5 s hs
theorem x_carSlot (hR : isR R) {q : Int32 × Int32} (h : CX Θ S ω R c q) (hd : c.2.2.2.2.2.2.2.1 = false) (he : c.2.2.2.2.2.2.2.2 = false) {s : Nat} (hs : s < 10) (ht : Rg q.2 10000) : ∃ S', F_X6_screamsIn Θ (gb Θ + R) (nI s) (laz Θ S ω) n = some (.inl (some (.int (if q.1 = -1 ∧ (caS c s q).1 ≠ -1 then 1 else 0)), laz Θ S' ω, n)) ∧ XR R S S' ∧ CX Θ S' ω R c (caS c s q) := by
  obtain ⟨rx, h8, h9, h12, h13⟩ := h
  by_cases z : q.1 = -1
  · have e1 : rst1 c s (-1, q.2, zF S R 7) = ((caS c s q).1, (caS c s q).2, zF S R 7) := by
      have er : ∀ sd, rte c s q.2 sd = rte c s q.2 0 := fun sd => by unfold rte; simp only [hd, Bool.false_eq_true, if_false]
      have es : rsd c s (zF S R 7) = zF S R 7 := by unfold rsd; rw [hd]; split <;> rfl
      unfold caS rst1
      rw [if_pos rfl, if_pos z]
      dsimp only
      rw [er, es, he]
      by_cases y : rte c s q.2 0 ≤ c.2.2.2.2.1
      · rw [if_neg (fun u => u.1 y), if_pos y]
      · rw [if_pos ⟨y, rfl⟩, if_neg y]
    obtain ⟨S', e, x1, x2, x3, x4, x5, x6, _⟩ := x_screamsIn (n := n) hR rx hs ht (h8.trans z) h9 rfl (by rw [h12, hd]; rfl) (by rw [h13, he]; rfl)
    rw [e1] at e x2 x3
    refine ⟨S', ?_, x1, rx.xr hR x1, x2, x3, x5.trans h12, x6.trans h13⟩
    rw [e]
    dsimp only
    by_cases y : (caS c s q).1 = -1
    · rw [if_pos y, if_neg (fun u => u.2 y)]
    · rw [if_neg y, if_pos ⟨z, y⟩]
  · have e2 : caS c s q = q := if_neg z
    rw [e2]
    refine ⟨S, ?_, XR.rf R S, rx, h8, h9, h12, h13⟩
    rw [x_screamsIn_n hR (by rw [h8]; exact z), if_neg (fun u => z u.1)]
theorem x_carHear (hR : isR R) {q : Int32 × Int32} (h : CX Θ S ω R c q) (s : Nat) (e : Int32) : ∃ S', F_X6_hear Θ (gb Θ + R) (nI s) e (laz Θ S ω) n = some (.inl (none, laz Θ S' ω, n)) ∧ XR R S S' ∧ CX Θ S' ω R c (heS c.2.2.2.2.1 e s q) := by
  obtain ⟨rx, h8, h9, h12, h13⟩ := h
  obtain ⟨S', e1, x1, x2, x3, _, x5, x6⟩ := x_hear (Θ := Θ) (ω := ω) (n := n) (s := s) (e := e) hR rx.2.2.2.2.2.2.1 h8 h9
  exact ⟨S', e1, x1, rx.xr hR x1, x2, x3, x5.trans h12, x6.trans h13⟩
end CB
