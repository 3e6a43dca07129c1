theorem lw_sub {L : Nat} (hL : L ≤ 3072) : (nI L - 6).toInt = (L : Int) - 6 := by
  rw [Int32.toInt_sub, nI_toInt (by omega)]
  have h6 : (6 : Int32).toInt = 6 := by decide
  rw [h6]
  exact Int.bmod_eq_of_le (by omega) (by omega)
theorem lw_end {i L : Nat} (h1 : L < i + 6) (h2 : i ≤ L) (hL : L ≤ 3072) : nI L - 6 < nI i := by
  rw [Int32.lt_iff_toInt_lt, lw_sub hL, nI_toInt (by omega)]
  omega
theorem lw_on {i L : Nat} (h1 : i + 6 ≤ L) (hL : L ≤ 3072) : ¬ nI L - 6 < nI i := by
  rw [Int32.lt_iff_toInt_lt, lw_sub hL, nI_toInt (by omega)]
  omega
def PC (Θ : GP) (x m o : Nat) (Inv : OW → Prop) : Prop := PC_0 Θ x m o Inv ∧ PC_1 Θ x m o Inv ∧ PC_2 Θ x m o Inv ∧ PC_3 Θ x m o Inv ∧ PC_4 Θ x m o Inv ∧ PC_5 Θ x m o Inv ∧ PC_6 Θ x m o Inv ∧ PC_7 Θ x m o Inv ∧ PC_8 Θ x m o Inv ∧ PC_9 Θ x m o Inv ∧ PC_10 Θ x m o Inv ∧ PC_11 Θ x m o Inv ∧ PC_12 Θ x m o Inv ∧ PC_13 Θ x m o Inv ∧ PC_14 Θ x m o Inv ∧ PC_15 Θ x m o Inv ∧ PC_16 Θ x m o Inv ∧ PC_17 Θ x m o Inv ∧ PC_18 Θ x m o Inv ∧ PC_19 Θ x m o Inv ∧ PC_20 Θ x m o Inv ∧ PC_21 Θ x m o Inv ∧ PC_22 Θ x m o Inv ∧ PC_23 Θ x m o Inv ∧ PC_24 Θ x m o Inv ∧ PC_25 Θ x m o Inv ∧ PC_26 Θ x m o Inv ∧ PC_27 Θ x m o Inv ∧ PC_28 Θ x m o Inv ∧ PC_29 Θ x m o Inv ∧ PC_30 Θ x m o Inv ∧ PC_31 Θ x m o Inv ∧ PC_32 Θ x m o Inv ∧ PC_33 Θ x m o Inv ∧ PC_34 Θ x m o Inv ∧ PC_35 Θ x m o Inv ∧ PC_36 Θ x m o Inv ∧ PC_37 Θ x m o Inv ∧ PC_38 Θ x m o Inv ∧ PC_39 Θ x m o Inv ∧ PC_40 Θ x m o Inv ∧ PC_41 Θ x m o Inv ∧ PC_42 Θ x m o Inv ∧ PC_43 Θ x m o Inv ∧ PC_44 Θ x m o Inv ∧ PC_45 Θ x m o Inv ∧ PC_46 Θ x m o Inv ∧ PC_47 Θ x m o Inv
theorem lsw (Θ : GP) {b L : Nat} {xs : Nat → Int32} (hX : gX Θ = some (b, L, xs)) (hL : L ≤ 3072) {x m o : Nat} {tab : List ExceptionTableEntry} {Qx : String → OW → Nat → Prop} {Inv : OW → Prop} (hp : PC Θ x m o Inv) {i : Nat} (hi : i + 6 ≤ L) {B : Nat × Nat} (hB1 : 8 ≤ B.1) (hB2 : 2100 ≤ B.2) {Qv : Option Value → OW → Nat → Prop} {ω : OW} {n : Nat} (hI : Inv ω) (K : ∀ ω' n', Inv ω' → G Θ yL_law_ cL_law_ 7 (some .boolean) 1000 tab Qv Qx (B.1 - 8, B.2 - 2100) 2492 [(0, .ref b), (1, .ref x), (2, .ref m), (3, .ref o), (4, .int (nI i))] [] ω' n') (c : Int32) : G Θ yL_law_ cL_law_ 7 (some .boolean) 1000 tab Qv Qx B 40 [(0, .ref b), (1, .ref x), (2, .ref m), (3, .ref o), (4, .int (nI i))] [.int c] ω n := by
  obtain ⟨p0, p1, p2, p3, p4, p5, p6, p7, p8, p9, p10, p11, p12, p13, p14, p15, p16, p17, p18, p19, p20, p21, p22, p23, p24, p25, p26, p27, p28, p29, p30, p31, p32, p33, p34, p35, p36, p37, p38, p39, p40, p41, p42, p43, p44, p45, p46, p47⟩ := hp
  by_cases c0 : c = 0
  · refine g_tableIn (off := 208) (tgt := 248) dL_law__40 (by rw [c0]; decide) (by rw [c0]; decide) (by rw [c0]; decide) (by decide) ?_
    exact lc_0 Θ hX hL hi hB1 hB2 (p0 ω xs i hI) K
  by_cases c1 : c = 1
  · refine g_tableIn (off := 281) (tgt := 321) dL_law__40 (by rw [c1]; decide) (by rw [c1]; decide) (by rw [c1]; decide) (by decide) ?_
    exact lc_1 Θ hX hL hi hB1 hB2 (p1 ω xs i hI) K
  by_cases c2 : c = 2
  · refine g_tableIn (off := 306) (tgt := 346) dL_law__40 (by rw [c2]; decide) (by rw [c2]; decide) (by rw [c2]; decide) (by decide) ?_
    exact lc_2 Θ hX hL hi hB1 hB2 (p2 ω xs i hI) K
  by_cases c3 : c = 3
  · refine g_tableIn (off := 350) (tgt := 390) dL_law__40 (by rw [c3]; decide) (by rw [c3]; decide) (by rw [c3]; decide) (by decide) ?_
    exact lc_3 Θ hX hL hi hB1 hB2 (p3 ω xs i hI) K
  by_cases c4 : c = 4
  · refine g_tableIn (off := 394) (tgt := 434) dL_law__40 (by rw [c4]; decide) (by rw [c4]; decide) (by rw [c4]; decide) (by decide) ?_
    exact lc_4 Θ hX hL hi hB1 hB2 (p4 ω xs i hI) K
  by_cases c5 : c = 5
  · refine g_tableIn (off := 407) (tgt := 447) dL_law__40 (by rw [c5]; decide) (by rw [c5]; decide) (by rw [c5]; decide) (by decide) ?_
    exact lc_5 Θ hX hL hi hB1 hB2 (p5 ω xs i hI) K
  by_cases c6 : c = 6
  · refine g_tableIn (off := 475) (tgt := 515) dL_law__40 (by rw [c6]; decide) (by rw [c6]; decide) (by rw [c6]; decide) (by decide) ?_
    exact lc_6 Θ hX hL hi hB1 hB2 (p6 ω xs i hI) K
  by_cases c7 : c = 7
  · refine g_tableIn (off := 531) (tgt := 571) dL_law__40 (by rw [c7]; decide) (by rw [c7]; decide) (by rw [c7]; decide) (by decide) ?_
    exact lc_7 Θ hX hL hi hB1 hB2 (p7 ω xs i hI) K
  by_cases c8 : c = 8
  · refine g_tableIn (off := 599) (tgt := 639) dL_law__40 (by rw [c8]; decide) (by rw [c8]; decide) (by rw [c8]; decide) (by decide) ?_
    exact lc_8 Θ hX hL hi hB1 hB2 (p8 ω xs i hI) K
  by_cases c9 : c = 9
  · refine g_tableIn (off := 707) (tgt := 747) dL_law__40 (by rw [c9]; decide) (by rw [c9]; decide) (by rw [c9]; decide) (by decide) ?_
    exact lc_9 Θ hX hL hi hB1 hB2 (p9 ω xs i hI) K
  by_cases c10 : c = 10
  · refine g_tableIn (off := 763) (tgt := 803) dL_law__40 (by rw [c10]; decide) (by rw [c10]; decide) (by rw [c10]; decide) (by decide) ?_
    exact lc_10 Θ hX hL hi hB1 hB2 (p10 ω xs i hI) K
  by_cases c11 : c = 11
  · refine g_tableIn (off := 811) (tgt := 851) dL_law__40 (by rw [c11]; decide) (by rw [c11]; decide) (by rw [c11]; decide) (by decide) ?_
    exact lc_11 Θ hX hL hi hB1 hB2 (p11 ω xs i hI) K
  by_cases c12 : c = 12
  · refine g_tableIn (off := 867) (tgt := 907) dL_law__40 (by rw [c12]; decide) (by rw [c12]; decide) (by rw [c12]; decide) (by decide) ?_
    exact lc_12 Θ hX hL hi hB1 hB2 (p12 ω xs i hI) K
  by_cases c13 : c = 13
  · refine g_tableIn (off := 923) (tgt := 963) dL_law__40 (by rw [c13]; decide) (by rw [c13]; decide) (by rw [c13]; decide) (by decide) ?_
    exact lc_13 Θ hX hL hi hB1 hB2 (p13 ω xs i hI) K
  by_cases c14 : c = 14
  · refine g_tableIn (off := 959) (tgt := 999) dL_law__40 (by rw [c14]; decide) (by rw [c14]; decide) (by rw [c14]; decide) (by decide) ?_
    exact lc_14 Θ hX hL hi hB1 hB2 (p14 ω xs i hI) K
  by_cases c15 : c = 15
  · refine g_tableIn (off := 1015) (tgt := 1055) dL_law__40 (by rw [c15]; decide) (by rw [c15]; decide) (by rw [c15]; decide) (by decide) ?_
    exact lc_15 Θ hX hL hi hB1 hB2 (p15 ω xs i hI) K
  by_cases c16 : c = 16
  · refine g_tableIn (off := 1071) (tgt := 1111) dL_law__40 (by rw [c16]; decide) (by rw [c16]; decide) (by rw [c16]; decide) (by decide) ?_
    exact lc_16 Θ hX hL hi hB1 hB2 (p16 ω xs i hI) K
  by_cases c17 : c = 17
  · refine g_tableIn (off := 1127) (tgt := 1167) dL_law__40 (by rw [c17]; decide) (by rw [c17]; decide) (by rw [c17]; decide) (by decide) ?_
    exact lc_17 Θ hX hL hi hB1 hB2 (p17 ω xs i hI) K
  by_cases c18 : c = 18
  · refine g_tableIn (off := 1183) (tgt := 1223) dL_law__40 (by rw [c18]; decide) (by rw [c18]; decide) (by rw [c18]; decide) (by decide) ?_
    exact lc_18 Θ hX hL hi hB1 hB2 (p18 ω xs i hI) K
  by_cases c19 : c = 19
  · refine g_tableIn (off := 1251) (tgt := 1291) dL_law__40 (by rw [c19]; decide) (by rw [c19]; decide) (by rw [c19]; decide) (by decide) ?_
    exact lc_19 Θ hX hL hi hB1 hB2 (p19 ω xs i hI) K
  by_cases c20 : c = 20
  · refine g_tableIn (off := 1307) (tgt := 1347) dL_law__40 (by rw [c20]; decide) (by rw [c20]; decide) (by rw [c20]; decide) (by decide) ?_
    exact lc_20 Θ hX hL hi hB1 hB2 (p20 ω xs i hI) K
  by_cases c21 : c = 21
  · refine g_tableIn (off := 1375) (tgt := 1415) dL_law__40 (by rw [c21]; decide) (by rw [c21]; decide) (by rw [c21]; decide) (by decide) ?_
    exact lc_21 Θ hX hL hi hB1 hB2 (p21 ω xs i hI) K
  by_cases c22 : c = 22
  · refine g_tableIn (off := 1431) (tgt := 1471) dL_law__40 (by rw [c22]; decide) (by rw [c22]; decide) (by rw [c22]; decide) (by decide) ?_
    exact lc_22 Θ hX hL hi hB1 hB2 (p22 ω xs i hI) K
  by_cases c23 : c = 23
  · refine g_tableIn (off := 1444) (tgt := 1484) dL_law__40 (by rw [c23]; decide) (by rw [c23]; decide) (by rw [c23]; decide) (by decide) ?_
    exact lc_23 Θ hX hL hi hB1 hB2 (p23 ω xs i hI) K
  by_cases c24 : c = 24
  · refine g_tableIn (off := 1485) (tgt := 1525) dL_law__40 (by rw [c24]; decide) (by rw [c24]; decide) (by rw [c24]; decide) (by decide) ?_
    exact lc_24 Θ hX hL hi hB1 hB2 (p24 ω xs i hI) K
  by_cases c25 : c = 25
  · refine g_tableIn (off := 1498) (tgt := 1538) dL_law__40 (by rw [c25]; decide) (by rw [c25]; decide) (by rw [c25]; decide) (by decide) ?_
    exact lc_25 Θ hX hL hi hB1 hB2 (p25 ω xs i hI) K
  by_cases c26 : c = 26
  · refine g_tableIn (off := 1511) (tgt := 1551) dL_law__40 (by rw [c26]; decide) (by rw [c26]; decide) (by rw [c26]; decide) (by decide) ?_
    exact lc_26 Θ hX hL hi hB1 hB2 (p26 ω xs i hI) K
  by_cases c27 : c = 27
  · refine g_tableIn (off := 1595) (tgt := 1635) dL_law__40 (by rw [c27]; decide) (by rw [c27]; decide) (by rw [c27]; decide) (by decide) ?_
    exact lc_27 Θ hX hL hi hB1 hB2 (p27 ω xs i hI) K
  by_cases c28 : c = 28
  · refine g_tableIn (off := 1651) (tgt := 1691) dL_law__40 (by rw [c28]; decide) (by rw [c28]; decide) (by rw [c28]; decide) (by decide) ?_
    exact lc_28 Θ hX hL hi hB1 hB2 (p28 ω xs i hI) K
  by_cases c29 : c = 29
  · refine g_tableIn (off := 1719) (tgt := 1759) dL_law__40 (by rw [c29]; decide) (by rw [c29]; decide) (by rw [c29]; decide) (by decide) ?_
    exact lc_29 Θ hX hL hi hB1 hB2 (p29 ω xs i hI) K
  by_cases c30 : c = 30
  · refine g_tableIn (off := 1775) (tgt := 1815) dL_law__40 (by rw [c30]; decide) (by rw [c30]; decide) (by rw [c30]; decide) (by decide) ?_
    exact lc_30 Θ hX hL hi hB1 hB2 (p30 ω xs i hI) K
  by_cases c31 : c = 31
  · refine g_tableIn (off := 1788) (tgt := 1828) dL_law__40 (by rw [c31]; decide) (by rw [c31]; decide) (by rw [c31]; decide) (by decide) ?_
    exact lc_31 Θ hX hL hi hB1 hB2 (p31 ω xs i hI) K
  by_cases c32 : c = 32
  · refine g_tableIn (off := 1801) (tgt := 1841) dL_law__40 (by rw [c32]; decide) (by rw [c32]; decide) (by rw [c32]; decide) (by decide) ?_
    exact lc_32 Θ hX hL hi hB1 hB2 (p32 ω xs i hI) K
  by_cases c33 : c = 33
  · refine g_tableIn (off := 1814) (tgt := 1854) dL_law__40 (by rw [c33]; decide) (by rw [c33]; decide) (by rw [c33]; decide) (by decide) ?_
    exact lc_33 Θ hX hL hi hB1 hB2 (p33 ω xs i hI) K
  by_cases c34 : c = 34
  · refine g_tableIn (off := 1827) (tgt := 1867) dL_law__40 (by rw [c34]; decide) (by rw [c34]; decide) (by rw [c34]; decide) (by decide) ?_
    exact lc_34 Θ hX hL hi hB1 hB2 (p34 ω xs i hI) K
  by_cases c35 : c = 35
  · refine g_tableIn (off := 1883) (tgt := 1923) dL_law__40 (by rw [c35]; decide) (by rw [c35]; decide) (by rw [c35]; decide) (by decide) ?_
    exact lc_35 Θ hX hL hi hB1 hB2 (p35 ω xs i hI) K
  by_cases c36 : c = 36
  · refine g_tableIn (off := 1951) (tgt := 1991) dL_law__40 (by rw [c36]; decide) (by rw [c36]; decide) (by rw [c36]; decide) (by decide) ?_
    exact lc_36 Θ hX hL hi hB1 hB2 (p36 ω xs i hI) K
  by_cases c37 : c = 37
  · refine g_tableIn (off := 1992) (tgt := 2032) dL_law__40 (by rw [c37]; decide) (by rw [c37]; decide) (by rw [c37]; decide) (by decide) ?_
    exact lc_37 Θ hX hL hi hB1 hB2 (p37 ω xs i hI) K
  by_cases c38 : c = 38
  · refine g_tableIn (off := 2060) (tgt := 2100) dL_law__40 (by rw [c38]; decide) (by rw [c38]; decide) (by rw [c38]; decide) (by decide) ?_
    exact lc_38 Θ hX hL hi hB1 hB2 (p38 ω xs i hI) K
  by_cases c39 : c = 39
  · refine g_tableIn (off := 2073) (tgt := 2113) dL_law__40 (by rw [c39]; decide) (by rw [c39]; decide) (by rw [c39]; decide) (by decide) ?_
    exact lc_39 Θ hX hL hi hB1 hB2 (p39 ω xs i hI) K
  by_cases c40 : c = 40
  · refine g_tableIn (off := 2129) (tgt := 2169) dL_law__40 (by rw [c40]; decide) (by rw [c40]; decide) (by rw [c40]; decide) (by decide) ?_
    exact lc_40 Θ hX hL hi hB1 hB2 (p40 ω xs i hI) K
  by_cases c41 : c = 41
  · refine g_tableIn (off := 2213) (tgt := 2253) dL_law__40 (by rw [c41]; decide) (by rw [c41]; decide) (by rw [c41]; decide) (by decide) ?_
    exact lc_41 Θ hX hL hi hB1 hB2 (p41 ω xs i hI) K
  by_cases c42 : c = 42
  · refine g_tableIn (off := 2297) (tgt := 2337) dL_law__40 (by rw [c42]; decide) (by rw [c42]; decide) (by rw [c42]; decide) (by decide) ?_
    exact lc_42 Θ hX hL hi hB1 hB2 (p42 ω xs i hI) K
  by_cases c43 : c = 43
  · refine g_tableIn (off := 2365) (tgt := 2405) dL_law__40 (by rw [c43]; decide) (by rw [c43]; decide) (by rw [c43]; decide) (by decide) ?_
    exact lc_43 Θ hX hL hi hB1 hB2 (p43 ω xs i hI) K
  by_cases c44 : c = 44
  · refine g_tableIn (off := 2390) (tgt := 2430) dL_law__40 (by rw [c44]; decide) (by rw [c44]; decide) (by rw [c44]; decide) (by decide) ?_
    exact lc_44 Θ hX hL hi hB1 hB2 (p44 ω xs i hI) K
  by_cases c45 : c = 45
  · refine g_tableIn (off := 2403) (tgt := 2443) dL_law__40 (by rw [c45]; decide) (by rw [c45]; decide) (by rw [c45]; decide) (by decide) ?_
    exact lc_45 Θ hX hL hi hB1 hB2 (p45 ω xs i hI) K
  by_cases c46 : c = 46
  · refine g_tableIn (off := 2414) (tgt := 2454) dL_law__40 (by rw [c46]; decide) (by rw [c46]; decide) (by rw [c46]; decide) (by decide) ?_
    exact lc_46 Θ hX hL hi hB1 hB2 (p46 ω xs i hI) K
  by_cases c47 : c = 47
  · refine g_tableIn (off := 2427) (tgt := 2467) dL_law__40 (by rw [c47]; decide) (by rw [c47]; decide) (by rw [c47]; decide) (by decide) ?_
    exact lc_47 Θ hX hL hi hB1 hB2 (p47 ω xs i hI) K
  have q0 := ne_toInt c0 (z := 0) (by decide)
  have q1 := ne_toInt c1 (z := 1) (by decide)
  have q2 := ne_toInt c2 (z := 2) (by decide)
  have q3 := ne_toInt c3 (z := 3) (by decide)
  have q4 := ne_toInt c4 (z := 4) (by decide)
  have q5 := ne_toInt c5 (z := 5) (by decide)
  have q6 := ne_toInt c6 (z := 6) (by decide)
  have q7 := ne_toInt c7 (z := 7) (by decide)
  have q8 := ne_toInt c8 (z := 8) (by decide)
  have q9 := ne_toInt c9 (z := 9) (by decide)
  have q10 := ne_toInt c10 (z := 10) (by decide)
  have q11 := ne_toInt c11 (z := 11) (by decide)
  have q12 := ne_toInt c12 (z := 12) (by decide)
  have q13 := ne_toInt c13 (z := 13) (by decide)
  have q14 := ne_toInt c14 (z := 14) (by decide)
  have q15 := ne_toInt c15 (z := 15) (by decide)
  have q16 := ne_toInt c16 (z := 16) (by decide)
  have q17 := ne_toInt c17 (z := 17) (by decide)
  have q18 := ne_toInt c18 (z := 18) (by decide)
  have q19 := ne_toInt c19 (z := 19) (by decide)
  have q20 := ne_toInt c20 (z := 20) (by decide)
  have q21 := ne_toInt c21 (z := 21) (by decide)
  have q22 := ne_toInt c22 (z := 22) (by decide)
  have q23 := ne_toInt c23 (z := 23) (by decide)
  have q24 := ne_toInt c24 (z := 24) (by decide)
  have q25 := ne_toInt c25 (z := 25) (by decide)
  have q26 := ne_toInt c26 (z := 26) (by decide)
  have q27 := ne_toInt c27 (z := 27) (by decide)
  have q28 := ne_toInt c28 (z := 28) (by decide)
  have q29 := ne_toInt c29 (z := 29) (by decide)
  have q30 := ne_toInt c30 (z := 30) (by decide)
  have q31 := ne_toInt c31 (z := 31) (by decide)
  have q32 := ne_toInt c32 (z := 32) (by decide)
  have q33 := ne_toInt c33 (z := 33) (by decide)
  have q34 := ne_toInt c34 (z := 34) (by decide)
  have q35 := ne_toInt c35 (z := 35) (by decide)
  have q36 := ne_toInt c36 (z := 36) (by decide)
  have q37 := ne_toInt c37 (z := 37) (by decide)
  have q38 := ne_toInt c38 (z := 38) (by decide)
  have q39 := ne_toInt c39 (z := 39) (by decide)
  have q40 := ne_toInt c40 (z := 40) (by decide)
  have q41 := ne_toInt c41 (z := 41) (by decide)
  have q42 := ne_toInt c42 (z := 42) (by decide)
  have q43 := ne_toInt c43 (z := 43) (by decide)
  have q44 := ne_toInt c44 (z := 44) (by decide)
  have q45 := ne_toInt c45 (z := 45) (by decide)
  have q46 := ne_toInt c46 (z := 46) (by decide)
  have q47 := ne_toInt c47 (z := 47) (by decide)
  refine g_tableOut (tgt := 2492) dL_law__40 (by omega) (by decide) ?_
  exact G.less (B' := (B.1 - 8, B.2 - 2100)) (Nat.sub_le _ _) (Nat.sub_le _ _) (K _ _ hI)
theorem lloop (Θ : GP) {b L : Nat} {xs : Nat → Int32} (hX : gX Θ = some (b, L, xs)) (hL : L ≤ 3072) {x m o : Nat} {tab : List ExceptionTableEntry} {Qx : String → OW → Nat → Prop} {Inv : OW → Prop} (hp : PC Θ x m o Inv) : ∀ (k i : Nat), L < i + 6 * k + 6 → i ≤ L → ∀ (ω : OW) (n : Nat), Inv ω → G Θ yL_law_ cL_law_ 7 (some .boolean) 1000 tab (fun v _ _ => v = some (.int 1)) Qx (8 * k, 2100 * k) 23 [(0, .ref b), (1, .ref x), (2, .ref m), (3, .ref o), (4, .int (nI i))] [] ω n := by
  intro k
  induction k with
  | zero =>
    intro i h1 h2 ω n hI
    refine g_iload dL_law__23 4 rfl ?_
    refine g_aload_n dL_law__25 rfl 0 rfl ?_
    refine g_slen hX dL_law__26 ?_
    refine g_bipush (v := 6) dL_law__27 (by decide) ?_
    refine g_isub dL_law__29 ?_
    refine g_icmp_gt (tgt := 2498) dL_law__30 (by decide) (fun _ => ?_) (fun c => absurd (lw_end (by omega) (by omega) (by omega)) c)
    refine g_iconst (v := 1) dL_law__2498 (by decide) ?_
    exact g_zret rfl rfl dL_law__2499 rfl
  | succ k ih =>
    intro i h1 h2 ω n hI
    refine g_iload dL_law__23 4 rfl ?_
    refine g_aload_n dL_law__25 rfl 0 rfl ?_
    refine g_slen hX dL_law__26 ?_
    refine g_bipush (v := 6) dL_law__27 (by decide) ?_
    refine g_isub dL_law__29 ?_
    by_cases hi : i + 6 ≤ L
    · refine g_icmp_gt (tgt := 2498) dL_law__30 (by decide) (fun c => absurd c (lw_on hi (by omega))) (fun _ => ?_)
      refine g_aload_n dL_law__33 rfl 0 rfl ?_
      refine g_iload dL_law__34 4 rfl ?_
      refine g_sld (j := i) hX dL_law__36 rfl (by omega) (by omega) ?_
      refine g_bipush (v := 63) dL_law__37 (by decide) ?_
      refine g_iand dL_law__39 ?_
      refine lsw Θ hX hL hp hi (by show 8 ≤ 8 * (k + 1); omega) (by show 2100 ≤ 2100 * (k + 1); omega) hI (fun ω' n' hI' => ?_) _
      refine g_iinc (j := 4) (lv' := [(4, .int (nI (i + 6))), (0, .ref b), (1, .ref x), (2, .ref m), (3, .ref o)]) dL_law__2492 rfl (nI_add i 6) (by decide) rfl ?_
      refine g_goto (tgt := 23) dL_law__2495 (by decide) ?_
      refine G.lsub [1, 2, 3, 4, 0] rfl ?_
      exact G.less (B' := (8 * k, 2100 * k)) (by show 8 * k ≤ 8 * (k + 1) - 8; omega) (by show 2100 * k ≤ 2100 * (k + 1) - 2100; omega) (ih (i + 6) (by omega) hi ω' n' hI')
    · refine g_icmp_gt (tgt := 2498) dL_law__30 (by decide) (fun _ => ?_) (fun c => absurd (lw_end (by omega) (by omega) (by omega)) c)
      refine g_iconst (v := 1) dL_law__2498 (by decide) ?_
      exact g_zret rfl rfl dL_law__2499 rfl
