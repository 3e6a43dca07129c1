/-! two in one car: the reference's way through the slots -/
def XC (S S' : PZ) : Prop := (∀ k j, ¬ (k = 218 ∧ ((18 ≤ j ∧ j ≤ 22) ∨ (28 ≤ j ∧ j ≤ 32))) → zF S' k j = zF S k j) ∧ (∀ k, k ≠ 226 → k ≠ 227 → k ≠ 228 → k ≠ 229 → zA S' k = zA S k) ∧ (∀ k j, zR S' k j = zR S k j) ∧ (∀ k, zL S' k = zL S k)
theorem XC.rf (S : PZ) : XC S S := ⟨fun _ _ _ => rfl, fun _ _ _ _ _ => rfl, fun _ _ => rfl, fun _ => rfl⟩
theorem XC.xp {S S' S'' : PZ} (h : XC S S') (g : XP S' S'') : XC S S'' := ⟨fun k j q => (g.1 k j (by omega)).trans (h.1 k j q), fun k a b c d => (g.2.1 k a b c d).trans (h.2.1 k a b c d), fun k j => (g.2.2.1 k j).trans (h.2.2.1 k j), fun k => (g.2.2.2 k).trans (h.2.2.2 k)⟩
theorem XC.nF {S S' : PZ} (h : XC S S') {j : Nat} {v : Int32} (q : j = 31 ∨ j = 32) : XC S (uF S' 218 j v) := ⟨fun k i z => by rw [zF_ne _ _ (by omega), h.1 k i z], h.2.1, h.2.2.1, h.2.2.2⟩
theorem has_csR (q : (Int32 × Int32) × (Int32 × Int32)) : hasS (csR q) 0 = (if q.1.1 = -1 then 0 else 1) ∧ hasS (csR q) 1 = (if q.2.1 = -1 then 0 else 1) := by
  unfold csR
  by_cases z : q.1.1 = -1
  · by_cases y : q.2.1 = -1
    · simp only [if_pos z, if_pos y]; decide
    · simp only [if_pos z, if_neg y]; decide
  · by_cases y : q.2.1 = -1
    · simp only [if_neg z, if_pos y]; decide
    · simp only [if_neg z, if_neg y]; decide
