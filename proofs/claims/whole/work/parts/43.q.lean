/-! a line of the law: what its reading gives; the reference's whole line -/
section LQ
variable {Θ : GP} {S : PZ} {ω : OW} {n : Nat} {x : TX}
theorem m_lnLaw (h : MTx S x) {q l i : Nat} (hl : l < 12) (hq : q ≤ x.1) (hi : zF S 218 16 = nI i) (h4 : i ≤ q) : RLn Θ S ω n x l i (liP x q) (F_X11_readLawLine Θ (gb Θ + 218) (nI l) (laz Θ (mT S (weT x q) q) ω) n) := by
  have hw := weT_b hq
  unfold F_X11_readLawLine liP
  rw [a218_1, d218, m_isWord h (by decide) hq, kI_v, ixl0]
  cases h17 : isWd x q 17 with
  | true =>
    have hW := (wd_we (by omega) h17).1
    have hW : weT x q = q + 6 := hW
    rw [if_neg (show ¬ b01 true = 0 by decide), if_pos rfl]
    exact m_ln53 h hl hq (by decide) hi (by omega) h4
  | false =>
    rw [if_pos (show b01 false = 0 from rfl), if_neg (show ¬ false = true by decide), d218, m_isWord h (by decide) hq, kI_v]
    cases h18 : isWd x q 18 with
    | true =>
      have hW := (wd_we (by omega) h18).1
      have hW : weT x q = q + 4 := hW
      rw [if_neg (show ¬ b01 true = 0 by decide), if_pos rfl]
      exact m_ln53 h hl hq (by decide) hi (by omega) h4
    | false =>
      rw [if_pos (show b01 false = 0 from rfl), if_neg (show ¬ false = true by decide), d218, m_isWord h (by decide) hq, kI_v]
      cases h19 : isWd x q 19 with
      | true =>
        have hW := (wd_we (by omega) h19).1
        have hW : weT x q = q + 4 := hW
        rw [if_neg (show ¬ b01 true = 0 by decide), if_pos rfl]
        exact m_ln53 h hl hq (by decide) hi (by omega) h4
      | false =>
        rw [if_pos (show b01 false = 0 from rfl), if_neg (show ¬ false = true by decide)]
        unfold J_X11_readLawLine_53
        rw [s_219 (by omega), mT_uA, a218_1, l_219 (by omega), mT_A, zA_eq, upd_same, if_neg (show ¬ (0 : Int32) ≤ -1 by decide)]
        exact ⟨_, _, _, rfl, hw.2, (RQ3.rf S).nA (by omega), fun _ => rfl, fun ln e => by cases e⟩
def okL (ln : LI) : Prop := (ln.1 = 0 ∨ ln.1 = 1 ∨ ln.1 = 2) ∧ Rg ln.2.1 30 ∧ (ln.2.2 = noC ∨ (okC ln.2.2 ∧ ln.2.2.2.2.1 ≤ 16))
theorem liKG (hx : x.1 ≤ 400) {q : Nat} {kd : Int32} (hq : q ≤ x.1) (hw4 : q + 4 ≤ weT x q) (hkd : kd = 0 ∨ kd = 1 ∨ kd = 2) : q ≤ (liK x q kd).1 ∧ (liK x q kd).1 ≤ x.1 ∧ ∀ ln, (liK x q kd).2 = some ln → q + ln.2.2.1.length ≤ (liK x q kd).1 ∧ q + ln.2.2.2.1.length ≤ (liK x q kd).1 ∧ q < (liK x q kd).1 ∧ okL ln := by
  have hw := weT_b hq
  have hs1 := skT_b hw.2
  have hd := deT_b hs1.2
  have hs2 := skT_b hd.2
  unfold liK
  by_cases y : nmR x (skT x (weT x q)) 0 30 = -1
  · rw [if_pos y]
    exact ⟨show q ≤ skT x (weT x q) by omega, hs1.2, fun ln e => by cases e⟩
  · have hr := nm_Rg (hi := 30) hs1.2 (by omega) y
    rw [if_neg y]
    by_cases z : isWd x (skT x (deT x (skT x (weT x q)))) 20 = true
    · rw [if_pos z]
      have hn := wd_nx (by omega) z hs2.2
      have hg := cdPG (atG hx 7) hn.2
      rcases hm : cdP x (atP x 7) (skT x (weT x (skT x (deT x (skT x (weT x q)))))) with ⟨r, _ | c⟩
      · rw [hm] at hg
        exact ⟨Nat.le_trans (by omega) hg.1, hg.2.1, fun ln e => by cases e⟩
      · rw [hm] at hg
        obtain ⟨g1, g2, g3⟩ := hg
        obtain ⟨a1, a2, a3, a4, a5⟩ := g3 c rfl
        have g1 : skT x (weT x (skT x (deT x (skT x (weT x q))))) ≤ r := g1
        have a1 : skT x (weT x (skT x (deT x (skT x (weT x q))))) + c.1.length ≤ r := a1
        have a2 : skT x (weT x (skT x (deT x (skT x (weT x q))))) + c.2.1.length ≤ r := a2
        refine ⟨show q ≤ r by omega, g2, fun ln e => ?_⟩
        cases e
        exact ⟨show q + c.1.length ≤ r by omega, show q + c.2.1.length ≤ r by omega, show q < r by omega, hkd, hr, Or.inr ⟨a5, a4⟩⟩
    · rw [if_neg z]
      refine ⟨show q ≤ skT x (deT x (skT x (weT x q))) by omega, hs2.2, fun ln e => ?_⟩
      cases e
      exact ⟨show q + 0 ≤ skT x (deT x (skT x (weT x q))) by omega, show q + 0 ≤ skT x (deT x (skT x (weT x q))) by omega, show q < skT x (deT x (skT x (weT x q))) by omega, hkd, hr, Or.inl rfl⟩
theorem liG (hx : x.1 ≤ 400) {q : Nat} (hq : q ≤ x.1) : q ≤ (liP x q).1 ∧ (liP x q).1 ≤ x.1 ∧ ∀ ln, (liP x q).2 = some ln → q + ln.2.2.1.length ≤ (liP x q).1 ∧ q + ln.2.2.2.1.length ≤ (liP x q).1 ∧ q < (liP x q).1 ∧ okL ln := by
  unfold liP
  by_cases h17 : isWd x q 17 = true
  · rw [if_pos h17]
    have hW : weT x q = q + 6 := (wd_we (by omega) h17).1
    exact liKG hx hq (by omega) (by decide)
  · rw [if_neg h17]
    by_cases h18 : isWd x q 18 = true
    · rw [if_pos h18]
      have hW : weT x q = q + 4 := (wd_we (by omega) h18).1
      exact liKG hx hq (by omega) (by decide)
    · rw [if_neg h18]
      by_cases h19 : isWd x q 19 = true
      · rw [if_pos h19]
        have hW : weT x q = q + 4 := (wd_we (by omega) h19).1
        exact liKG hx hq (by omega) (by decide)
      · rw [if_neg h19]
        exact ⟨Nat.le_refl _, hq, fun ln e => by cases e⟩
end LQ
