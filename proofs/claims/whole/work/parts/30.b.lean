section LY
variable {Θ : GP} {S : PZ} {ω : OW}
theorem a1_0 {kk : Int32 → RO} : rI (laz Θ S ω) (gb Θ + 1) 8 0 kk = kk (zF S 1 0) := r8_0 rfl
theorem b1_0 {v : Int32} {kk : OW → RO} : wF (laz Θ S ω) (gb Θ + 1) 8 0 (.int v) kk = kk (laz Θ (uF S 1 0 v) ω) := w8_0 rfl
theorem a1_1 {kk : Int32 → RO} : rI (laz Θ S ω) (gb Θ + 1) 8 1 kk = kk (zF S 1 1) := r8_1 rfl
theorem b1_1 {v : Int32} {kk : OW → RO} : wF (laz Θ S ω) (gb Θ + 1) 8 1 (.int v) kk = kk (laz Θ (uF S 1 1 v) ω) := w8_1 rfl
theorem a1_2 {kk : Int32 → RO} : rI (laz Θ S ω) (gb Θ + 1) 8 2 kk = kk (zF S 1 2) := r8_2 rfl
theorem b1_2 {v : Int32} {kk : OW → RO} : wF (laz Θ S ω) (gb Θ + 1) 8 2 (.int v) kk = kk (laz Θ (uF S 1 2 v) ω) := w8_2 rfl
theorem a1_3 {kk : Int32 → RO} : rI (laz Θ S ω) (gb Θ + 1) 8 3 kk = kk (zF S 1 3) := r8_3 rfl
theorem b1_3 {v : Int32} {kk : OW → RO} : wF (laz Θ S ω) (gb Θ + 1) 8 3 (.int v) kk = kk (laz Θ (uF S 1 3 v) ω) := w8_3 rfl
theorem a1_4 {kk : Int64 → RO} : rL (laz Θ S ω) (gb Θ + 1) 8 4 kk = kk (zL S 1) := r8_4 rfl
theorem b1_4 {v : Int64} {kk : OW → RO} : wF (laz Θ S ω) (gb Θ + 1) 8 4 (.long v) kk = kk (laz Θ (uL S 1 v) ω) := w8_4 rfl
theorem a1_5 {kk : Nat → RO} : rA (laz Θ S ω) (gb Θ + 1) 8 5 kk = kk (gb Θ + 2) := r8_5 rfl
theorem d1 {r : RO} : cO (laz Θ S ω) (gb Θ + 1) 8 r = r := c8 rfl
theorem a3_0 {kk : Nat → RO} : rA (laz Θ S ω) (gb Θ + 3) 7 0 kk = kk (gb Θ + 4) := r7_0 rfl
theorem a3_1 {kk : Nat → RO} : rA (laz Θ S ω) (gb Θ + 3) 7 1 kk = kk (gb Θ + 5) := r7_1 rfl
theorem a3_2 {kk : Nat → RO} : rA (laz Θ S ω) (gb Θ + 3) 7 2 kk = kk (gb Θ + 6) := r7_2 rfl
theorem d3 {r : RO} : cO (laz Θ S ω) (gb Θ + 3) 7 r = r := c7 rfl
theorem a14_0 {kk : Int32 → RO} : rI (laz Θ S ω) (gb Θ + 14) 0 0 kk = kk (zF S 14 0) := r0_0 rfl
theorem b14_0 {v : Int32} {kk : OW → RO} : wF (laz Θ S ω) (gb Θ + 14) 0 0 (.int v) kk = kk (laz Θ (uF S 14 0 v) ω) := w0_0 rfl
theorem a14_1 {kk : Int32 → RO} : rI (laz Θ S ω) (gb Θ + 14) 0 1 kk = kk (zF S 14 1) := r0_1 rfl
theorem b14_1 {v : Int32} {kk : OW → RO} : wF (laz Θ S ω) (gb Θ + 14) 0 1 (.int v) kk = kk (laz Θ (uF S 14 1 v) ω) := w0_1 rfl
theorem a14_2 {kk : Int32 → RO} : rI (laz Θ S ω) (gb Θ + 14) 0 2 kk = kk (zF S 14 2) := r0_2 rfl
theorem b14_2 {v : Int32} {kk : OW → RO} : wF (laz Θ S ω) (gb Θ + 14) 0 2 (.int v) kk = kk (laz Θ (uF S 14 2 v) ω) := w0_2 rfl
theorem a14_3 {kk : Int32 → RO} : rI (laz Θ S ω) (gb Θ + 14) 0 3 kk = kk (zF S 14 3) := r0_3 rfl
theorem b14_3 {v : Int32} {kk : OW → RO} : wF (laz Θ S ω) (gb Θ + 14) 0 3 (.int v) kk = kk (laz Θ (uF S 14 3 v) ω) := w0_3 rfl
theorem a14_4 {kk : Int32 → RO} : rI (laz Θ S ω) (gb Θ + 14) 0 4 kk = kk (zF S 14 4) := r0_4 rfl
theorem b14_4 {v : Int32} {kk : OW → RO} : wF (laz Θ S ω) (gb Θ + 14) 0 4 (.int v) kk = kk (laz Θ (uF S 14 4 v) ω) := w0_4 rfl
theorem a14_5 {kk : Int32 → RO} : rI (laz Θ S ω) (gb Θ + 14) 0 5 kk = kk (zF S 14 5) := r0_5 rfl
theorem b14_5 {v : Int32} {kk : OW → RO} : wF (laz Θ S ω) (gb Θ + 14) 0 5 (.int v) kk = kk (laz Θ (uF S 14 5 v) ω) := w0_5 rfl
theorem a14_6 {kk : Int32 → RO} : rI (laz Θ S ω) (gb Θ + 14) 0 6 kk = kk (zF S 14 6) := r0_6 rfl
theorem b14_6 {v : Int32} {kk : OW → RO} : wF (laz Θ S ω) (gb Θ + 14) 0 6 (.int v) kk = kk (laz Θ (uF S 14 6 v) ω) := w0_6 rfl
theorem a14_7 {kk : Nat → RO} : rA (laz Θ S ω) (gb Θ + 14) 0 7 kk = kk (gb Θ + 15) := r0_7 rfl
theorem a14_8 {kk : Nat → RO} : rA (laz Θ S ω) (gb Θ + 14) 0 8 kk = kk (gb Θ + 16) := r0_8 rfl
theorem a14_9 {kk : Nat → RO} : rA (laz Θ S ω) (gb Θ + 14) 0 9 kk = kk (gb Θ + 17) := r0_9 rfl
theorem a14_10 {kk : Nat → RO} : rA (laz Θ S ω) (gb Θ + 14) 0 10 kk = kk (gb Θ + 18) := r0_10 rfl
theorem a14_11 {kk : Nat → RO} : rA (laz Θ S ω) (gb Θ + 14) 0 11 kk = kk (gb Θ + 19) := r0_11 rfl
theorem a14_12 {kk : Nat → RO} : rA (laz Θ S ω) (gb Θ + 14) 0 12 kk = kk (gb Θ + 20) := r0_12 rfl
theorem a14_13 {kk : Nat → RO} : rA (laz Θ S ω) (gb Θ + 14) 0 13 kk = kk (gb Θ + 21) := r0_13 rfl
theorem a14_14 {kk : Nat → RO} : rA (laz Θ S ω) (gb Θ + 14) 0 14 kk = kk (gb Θ + 22) := r0_14 rfl
theorem a14_15 {kk : Nat → RO} : rA (laz Θ S ω) (gb Θ + 14) 0 15 kk = kk (gb Θ + 23) := r0_15 rfl
theorem a14_16 {kk : Nat → RO} : rA (laz Θ S ω) (gb Θ + 14) 0 16 kk = kk (gb Θ + 24) := r0_16 rfl
theorem a14_17 {kk : Nat → RO} : rA (laz Θ S ω) (gb Θ + 14) 0 17 kk = kk (zR S 14 17) := r0_17 rfl
theorem b14_17 {a : Nat} {kk : OW → RO} : wF (laz Θ S ω) (gb Θ + 14) 0 17 (.ref a) kk = kk (laz Θ (uR S 14 17 a) ω) := w0_17 rfl
theorem d14 {r : RO} : cO (laz Θ S ω) (gb Θ + 14) 0 r = r := c0 rfl
theorem a24_0 {kk : Int32 → RO} : rI (laz Θ S ω) (gb Θ + 24) 4 0 kk = kk (zF S 24 0) := r4_0 rfl
theorem b24_0 {v : Int32} {kk : OW → RO} : wF (laz Θ S ω) (gb Θ + 24) 4 0 (.int v) kk = kk (laz Θ (uF S 24 0 v) ω) := w4_0 rfl
theorem a24_1 {kk : Int32 → RO} : rI (laz Θ S ω) (gb Θ + 24) 4 1 kk = kk (zF S 24 1) := r4_1 rfl
theorem b24_1 {v : Int32} {kk : OW → RO} : wF (laz Θ S ω) (gb Θ + 24) 4 1 (.int v) kk = kk (laz Θ (uF S 24 1 v) ω) := w4_1 rfl
theorem a24_2 {kk : Nat → RO} : rA (laz Θ S ω) (gb Θ + 24) 4 2 kk = kk (gb Θ + 25) := r4_2 rfl
theorem d24 {r : RO} : cO (laz Θ S ω) (gb Θ + 24) 4 r = r := c4 rfl
theorem a26_0 {kk : Int32 → RO} : rI (laz Θ S ω) (gb Θ + 26) 0 0 kk = kk (zF S 26 0) := r0_0 rfl
theorem b26_0 {v : Int32} {kk : OW → RO} : wF (laz Θ S ω) (gb Θ + 26) 0 0 (.int v) kk = kk (laz Θ (uF S 26 0 v) ω) := w0_0 rfl
theorem a26_1 {kk : Int32 → RO} : rI (laz Θ S ω) (gb Θ + 26) 0 1 kk = kk (zF S 26 1) := r0_1 rfl
theorem b26_1 {v : Int32} {kk : OW → RO} : wF (laz Θ S ω) (gb Θ + 26) 0 1 (.int v) kk = kk (laz Θ (uF S 26 1 v) ω) := w0_1 rfl
theorem a26_2 {kk : Int32 → RO} : rI (laz Θ S ω) (gb Θ + 26) 0 2 kk = kk (zF S 26 2) := r0_2 rfl
theorem b26_2 {v : Int32} {kk : OW → RO} : wF (laz Θ S ω) (gb Θ + 26) 0 2 (.int v) kk = kk (laz Θ (uF S 26 2 v) ω) := w0_2 rfl
theorem a26_3 {kk : Int32 → RO} : rI (laz Θ S ω) (gb Θ + 26) 0 3 kk = kk (zF S 26 3) := r0_3 rfl
theorem b26_3 {v : Int32} {kk : OW → RO} : wF (laz Θ S ω) (gb Θ + 26) 0 3 (.int v) kk = kk (laz Θ (uF S 26 3 v) ω) := w0_3 rfl
theorem a26_4 {kk : Int32 → RO} : rI (laz Θ S ω) (gb Θ + 26) 0 4 kk = kk (zF S 26 4) := r0_4 rfl
theorem b26_4 {v : Int32} {kk : OW → RO} : wF (laz Θ S ω) (gb Θ + 26) 0 4 (.int v) kk = kk (laz Θ (uF S 26 4 v) ω) := w0_4 rfl
theorem a26_5 {kk : Int32 → RO} : rI (laz Θ S ω) (gb Θ + 26) 0 5 kk = kk (zF S 26 5) := r0_5 rfl
theorem b26_5 {v : Int32} {kk : OW → RO} : wF (laz Θ S ω) (gb Θ + 26) 0 5 (.int v) kk = kk (laz Θ (uF S 26 5 v) ω) := w0_5 rfl
theorem a26_6 {kk : Int32 → RO} : rI (laz Θ S ω) (gb Θ + 26) 0 6 kk = kk (zF S 26 6) := r0_6 rfl
theorem b26_6 {v : Int32} {kk : OW → RO} : wF (laz Θ S ω) (gb Θ + 26) 0 6 (.int v) kk = kk (laz Θ (uF S 26 6 v) ω) := w0_6 rfl
theorem a26_7 {kk : Nat → RO} : rA (laz Θ S ω) (gb Θ + 26) 0 7 kk = kk (gb Θ + 27) := r0_7 rfl
theorem a26_8 {kk : Nat → RO} : rA (laz Θ S ω) (gb Θ + 26) 0 8 kk = kk (gb Θ + 28) := r0_8 rfl
theorem a26_9 {kk : Nat → RO} : rA (laz Θ S ω) (gb Θ + 26) 0 9 kk = kk (gb Θ + 29) := r0_9 rfl
theorem a26_10 {kk : Nat → RO} : rA (laz Θ S ω) (gb Θ + 26) 0 10 kk = kk (gb Θ + 30) := r0_10 rfl
theorem a26_11 {kk : Nat → RO} : rA (laz Θ S ω) (gb Θ + 26) 0 11 kk = kk (gb Θ + 31) := r0_11 rfl
theorem a26_12 {kk : Nat → RO} : rA (laz Θ S ω) (gb Θ + 26) 0 12 kk = kk (gb Θ + 32) := r0_12 rfl
theorem a26_13 {kk : Nat → RO} : rA (laz Θ S ω) (gb Θ + 26) 0 13 kk = kk (gb Θ + 33) := r0_13 rfl
theorem a26_14 {kk : Nat → RO} : rA (laz Θ S ω) (gb Θ + 26) 0 14 kk = kk (gb Θ + 34) := r0_14 rfl
theorem a26_15 {kk : Nat → RO} : rA (laz Θ S ω) (gb Θ + 26) 0 15 kk = kk (gb Θ + 35) := r0_15 rfl
theorem a26_16 {kk : Nat → RO} : rA (laz Θ S ω) (gb Θ + 26) 0 16 kk = kk (gb Θ + 36) := r0_16 rfl
theorem a26_17 {kk : Nat → RO} : rA (laz Θ S ω) (gb Θ + 26) 0 17 kk = kk (zR S 26 17) := r0_17 rfl
theorem b26_17 {a : Nat} {kk : OW → RO} : wF (laz Θ S ω) (gb Θ + 26) 0 17 (.ref a) kk = kk (laz Θ (uR S 26 17 a) ω) := w0_17 rfl
theorem d26 {r : RO} : cO (laz Θ S ω) (gb Θ + 26) 0 r = r := c0 rfl
theorem a36_0 {kk : Int32 → RO} : rI (laz Θ S ω) (gb Θ + 36) 4 0 kk = kk (zF S 36 0) := r4_0 rfl
theorem b36_0 {v : Int32} {kk : OW → RO} : wF (laz Θ S ω) (gb Θ + 36) 4 0 (.int v) kk = kk (laz Θ (uF S 36 0 v) ω) := w4_0 rfl
theorem a36_1 {kk : Int32 → RO} : rI (laz Θ S ω) (gb Θ + 36) 4 1 kk = kk (zF S 36 1) := r4_1 rfl
theorem b36_1 {v : Int32} {kk : OW → RO} : wF (laz Θ S ω) (gb Θ + 36) 4 1 (.int v) kk = kk (laz Θ (uF S 36 1 v) ω) := w4_1 rfl
theorem a36_2 {kk : Nat → RO} : rA (laz Θ S ω) (gb Θ + 36) 4 2 kk = kk (gb Θ + 37) := r4_2 rfl
theorem d36 {r : RO} : cO (laz Θ S ω) (gb Θ + 36) 4 r = r := c4 rfl
theorem a38_0 {kk : Int32 → RO} : rI (laz Θ S ω) (gb Θ + 38) 0 0 kk = kk (zF S 38 0) := r0_0 rfl
theorem b38_0 {v : Int32} {kk : OW → RO} : wF (laz Θ S ω) (gb Θ + 38) 0 0 (.int v) kk = kk (laz Θ (uF S 38 0 v) ω) := w0_0 rfl
theorem a38_1 {kk : Int32 → RO} : rI (laz Θ S ω) (gb Θ + 38) 0 1 kk = kk (zF S 38 1) := r0_1 rfl
theorem b38_1 {v : Int32} {kk : OW → RO} : wF (laz Θ S ω) (gb Θ + 38) 0 1 (.int v) kk = kk (laz Θ (uF S 38 1 v) ω) := w0_1 rfl
theorem a38_2 {kk : Int32 → RO} : rI (laz Θ S ω) (gb Θ + 38) 0 2 kk = kk (zF S 38 2) := r0_2 rfl
theorem b38_2 {v : Int32} {kk : OW → RO} : wF (laz Θ S ω) (gb Θ + 38) 0 2 (.int v) kk = kk (laz Θ (uF S 38 2 v) ω) := w0_2 rfl
theorem a38_3 {kk : Int32 → RO} : rI (laz Θ S ω) (gb Θ + 38) 0 3 kk = kk (zF S 38 3) := r0_3 rfl
theorem b38_3 {v : Int32} {kk : OW → RO} : wF (laz Θ S ω) (gb Θ + 38) 0 3 (.int v) kk = kk (laz Θ (uF S 38 3 v) ω) := w0_3 rfl
theorem a38_4 {kk : Int32 → RO} : rI (laz Θ S ω) (gb Θ + 38) 0 4 kk = kk (zF S 38 4) := r0_4 rfl
theorem b38_4 {v : Int32} {kk : OW → RO} : wF (laz Θ S ω) (gb Θ + 38) 0 4 (.int v) kk = kk (laz Θ (uF S 38 4 v) ω) := w0_4 rfl
theorem a38_5 {kk : Int32 → RO} : rI (laz Θ S ω) (gb Θ + 38) 0 5 kk = kk (zF S 38 5) := r0_5 rfl
theorem b38_5 {v : Int32} {kk : OW → RO} : wF (laz Θ S ω) (gb Θ + 38) 0 5 (.int v) kk = kk (laz Θ (uF S 38 5 v) ω) := w0_5 rfl
theorem a38_6 {kk : Int32 → RO} : rI (laz Θ S ω) (gb Θ + 38) 0 6 kk = kk (zF S 38 6) := r0_6 rfl
theorem b38_6 {v : Int32} {kk : OW → RO} : wF (laz Θ S ω) (gb Θ + 38) 0 6 (.int v) kk = kk (laz Θ (uF S 38 6 v) ω) := w0_6 rfl
theorem a38_7 {kk : Nat → RO} : rA (laz Θ S ω) (gb Θ + 38) 0 7 kk = kk (gb Θ + 39) := r0_7 rfl
theorem a38_8 {kk : Nat → RO} : rA (laz Θ S ω) (gb Θ + 38) 0 8 kk = kk (gb Θ + 40) := r0_8 rfl
theorem a38_9 {kk : Nat → RO} : rA (laz Θ S ω) (gb Θ + 38) 0 9 kk = kk (gb Θ + 41) := r0_9 rfl
theorem a38_10 {kk : Nat → RO} : rA (laz Θ S ω) (gb Θ + 38) 0 10 kk = kk (gb Θ + 42) := r0_10 rfl
theorem a38_11 {kk : Nat → RO} : rA (laz Θ S ω) (gb Θ + 38) 0 11 kk = kk (gb Θ + 43) := r0_11 rfl
theorem a38_12 {kk : Nat → RO} : rA (laz Θ S ω) (gb Θ + 38) 0 12 kk = kk (gb Θ + 44) := r0_12 rfl
theorem a38_13 {kk : Nat → RO} : rA (laz Θ S ω) (gb Θ + 38) 0 13 kk = kk (gb Θ + 45) := r0_13 rfl
theorem a38_14 {kk : Nat → RO} : rA (laz Θ S ω) (gb Θ + 38) 0 14 kk = kk (gb Θ + 46) := r0_14 rfl
theorem a38_15 {kk : Nat → RO} : rA (laz Θ S ω) (gb Θ + 38) 0 15 kk = kk (gb Θ + 47) := r0_15 rfl
theorem a38_16 {kk : Nat → RO} : rA (laz Θ S ω) (gb Θ + 38) 0 16 kk = kk (gb Θ + 48) := r0_16 rfl
theorem a38_17 {kk : Nat → RO} : rA (laz Θ S ω) (gb Θ + 38) 0 17 kk = kk (zR S 38 17) := r0_17 rfl
theorem b38_17 {a : Nat} {kk : OW → RO} : wF (laz Θ S ω) (gb Θ + 38) 0 17 (.ref a) kk = kk (laz Θ (uR S 38 17 a) ω) := w0_17 rfl
theorem d38 {r : RO} : cO (laz Θ S ω) (gb Θ + 38) 0 r = r := c0 rfl
theorem a48_0 {kk : Int32 → RO} : rI (laz Θ S ω) (gb Θ + 48) 4 0 kk = kk (zF S 48 0) := r4_0 rfl
theorem b48_0 {v : Int32} {kk : OW → RO} : wF (laz Θ S ω) (gb Θ + 48) 4 0 (.int v) kk = kk (laz Θ (uF S 48 0 v) ω) := w4_0 rfl
theorem a48_1 {kk : Int32 → RO} : rI (laz Θ S ω) (gb Θ + 48) 4 1 kk = kk (zF S 48 1) := r4_1 rfl
theorem b48_1 {v : Int32} {kk : OW → RO} : wF (laz Θ S ω) (gb Θ + 48) 4 1 (.int v) kk = kk (laz Θ (uF S 48 1 v) ω) := w4_1 rfl
theorem a48_2 {kk : Nat → RO} : rA (laz Θ S ω) (gb Θ + 48) 4 2 kk = kk (gb Θ + 49) := r4_2 rfl
theorem d48 {r : RO} : cO (laz Θ S ω) (gb Θ + 48) 4 r = r := c4 rfl
theorem a50_0 {kk : Int32 → RO} : rI (laz Θ S ω) (gb Θ + 50) 5 0 kk = kk (zF S 50 0) := r5_0 rfl
theorem b50_0 {v : Int32} {kk : OW → RO} : wF (laz Θ S ω) (gb Θ + 50) 5 0 (.int v) kk = kk (laz Θ (uF S 50 0 v) ω) := w5_0 rfl
theorem a50_1 {kk : Int32 → RO} : rI (laz Θ S ω) (gb Θ + 50) 5 1 kk = kk (zF S 50 1) := r5_1 rfl
theorem b50_1 {v : Int32} {kk : OW → RO} : wF (laz Θ S ω) (gb Θ + 50) 5 1 (.int v) kk = kk (laz Θ (uF S 50 1 v) ω) := w5_1 rfl
theorem a50_2 {kk : Nat → RO} : rA (laz Θ S ω) (gb Θ + 50) 5 2 kk = kk (gb Θ + 51) := r5_2 rfl
theorem d50 {r : RO} : cO (laz Θ S ω) (gb Θ + 50) 5 r = r := c5 rfl
theorem a196_0 {kk : Nat → RO} : rA (laz Θ S ω) (gb Θ + 196) 1 0 kk = kk (gb Θ + 1) := r1_0 rfl
theorem a196_1 {kk : Nat → RO} : rA (laz Θ S ω) (gb Θ + 196) 1 1 kk = kk (gb Θ + 26) := r1_1 rfl
theorem d196 {r : RO} : cO (laz Θ S ω) (gb Θ + 196) 1 r = r := c1 rfl
theorem a197_0 {kk : Nat → RO} : rA (laz Θ S ω) (gb Θ + 197) 3 0 kk = kk (gb Θ + 1) := r3_0 rfl
theorem a197_1 {kk : Int32 → RO} : rI (laz Θ S ω) (gb Θ + 197) 3 1 kk = kk (zF S 197 1) := r3_1 rfl
theorem b197_1 {v : Int32} {kk : OW → RO} : wF (laz Θ S ω) (gb Θ + 197) 3 1 (.int v) kk = kk (laz Θ (uF S 197 1 v) ω) := w3_1 rfl
theorem a197_2 {kk : Int32 → RO} : rI (laz Θ S ω) (gb Θ + 197) 3 2 kk = kk (zF S 197 2) := r3_2 rfl
theorem b197_2 {v : Int32} {kk : OW → RO} : wF (laz Θ S ω) (gb Θ + 197) 3 2 (.int v) kk = kk (laz Θ (uF S 197 2 v) ω) := w3_2 rfl
theorem a197_3 {kk : Nat → RO} : rA (laz Θ S ω) (gb Θ + 197) 3 3 kk = kk (gb Θ + 198) := r3_3 rfl
theorem a197_4 {kk : Nat → RO} : rA (laz Θ S ω) (gb Θ + 197) 3 4 kk = kk (gb Θ + 199) := r3_4 rfl
theorem a197_5 {kk : Nat → RO} : rA (laz Θ S ω) (gb Θ + 197) 3 5 kk = kk (gb Θ + 200) := r3_5 rfl
theorem a197_6 {kk : Nat → RO} : rA (laz Θ S ω) (gb Θ + 197) 3 6 kk = kk (gb Θ + 201) := r3_6 rfl
theorem d197 {r : RO} : cO (laz Θ S ω) (gb Θ + 197) 3 r = r := c3 rfl
theorem a202_0 {kk : Nat → RO} : rA (laz Θ S ω) (gb Θ + 202) 6 0 kk = kk (gb Θ + 14) := r6_0 rfl
theorem a202_1 {kk : Nat → RO} : rA (laz Θ S ω) (gb Θ + 202) 6 1 kk = kk (gb Θ + 203) := r6_1 rfl
theorem a202_2 {kk : Nat → RO} : rA (laz Θ S ω) (gb Θ + 202) 6 2 kk = kk (gb Θ + 204) := r6_2 rfl
theorem a202_3 {kk : Int32 → RO} : rI (laz Θ S ω) (gb Θ + 202) 6 3 kk = kk (zF S 202 3) := r6_3 rfl
theorem b202_3 {v : Int32} {kk : OW → RO} : wF (laz Θ S ω) (gb Θ + 202) 6 3 (.int v) kk = kk (laz Θ (uF S 202 3 v) ω) := w6_3 rfl
theorem a202_4 {kk : Int32 → RO} : rI (laz Θ S ω) (gb Θ + 202) 6 4 kk = kk (zF S 202 4) := r6_4 rfl
theorem b202_4 {v : Int32} {kk : OW → RO} : wF (laz Θ S ω) (gb Θ + 202) 6 4 (.int v) kk = kk (laz Θ (uF S 202 4 v) ω) := w6_4 rfl
theorem a202_5 {kk : Int32 → RO} : rI (laz Θ S ω) (gb Θ + 202) 6 5 kk = kk (zF S 202 5) := r6_5 rfl
theorem b202_5 {v : Int32} {kk : OW → RO} : wF (laz Θ S ω) (gb Θ + 202) 6 5 (.int v) kk = kk (laz Θ (uF S 202 5 v) ω) := w6_5 rfl
theorem a202_6 {kk : Int32 → RO} : rI (laz Θ S ω) (gb Θ + 202) 6 6 kk = kk (zF S 202 6) := r6_6 rfl
theorem b202_6 {v : Int32} {kk : OW → RO} : wF (laz Θ S ω) (gb Θ + 202) 6 6 (.int v) kk = kk (laz Θ (uF S 202 6 v) ω) := w6_6 rfl
theorem a202_7 {kk : Int32 → RO} : rI (laz Θ S ω) (gb Θ + 202) 6 7 kk = kk (zF S 202 7) := r6_7 rfl
theorem b202_7 {v : Int32} {kk : OW → RO} : wF (laz Θ S ω) (gb Θ + 202) 6 7 (.int v) kk = kk (laz Θ (uF S 202 7 v) ω) := w6_7 rfl
theorem a202_8 {kk : Int32 → RO} : rI (laz Θ S ω) (gb Θ + 202) 6 8 kk = kk (zF S 202 8) := r6_8 rfl
theorem b202_8 {v : Int32} {kk : OW → RO} : wF (laz Θ S ω) (gb Θ + 202) 6 8 (.int v) kk = kk (laz Θ (uF S 202 8 v) ω) := w6_8 rfl
theorem a202_9 {kk : Int32 → RO} : rI (laz Θ S ω) (gb Θ + 202) 6 9 kk = kk (zF S 202 9) := r6_9 rfl
theorem b202_9 {v : Int32} {kk : OW → RO} : wF (laz Θ S ω) (gb Θ + 202) 6 9 (.int v) kk = kk (laz Θ (uF S 202 9 v) ω) := w6_9 rfl
theorem a202_10 {kk : Nat → RO} : rA (laz Θ S ω) (gb Θ + 202) 6 10 kk = kk (gb Θ + 205) := r6_10 rfl
theorem a202_11 {kk : Nat → RO} : rA (laz Θ S ω) (gb Θ + 202) 6 11 kk = kk (gb Θ + 206) := r6_11 rfl
theorem a202_12 {kk : Int32 → RO} : rI (laz Θ S ω) (gb Θ + 202) 6 12 kk = kk (zF S 202 12) := r6_12 rfl
theorem b202_12 {v : Int32} {kk : OW → RO} : wF (laz Θ S ω) (gb Θ + 202) 6 12 (.int v) kk = kk (laz Θ (uF S 202 12 v) ω) := w6_12 rfl
theorem a202_13 {kk : Int32 → RO} : rI (laz Θ S ω) (gb Θ + 202) 6 13 kk = kk (zF S 202 13) := r6_13 rfl
theorem b202_13 {v : Int32} {kk : OW → RO} : wF (laz Θ S ω) (gb Θ + 202) 6 13 (.int v) kk = kk (laz Θ (uF S 202 13 v) ω) := w6_13 rfl
theorem a202_14 {kk : Nat → RO} : rA (laz Θ S ω) (gb Θ + 202) 6 14 kk = kk (gb Θ + 207) := r6_14 rfl
theorem d202 {r : RO} : cO (laz Θ S ω) (gb Θ + 202) 6 r = r := c6 rfl
theorem a208_0 {kk : Nat → RO} : rA (laz Θ S ω) (gb Θ + 208) 6 0 kk = kk (gb Θ + 14) := r6_0 rfl
theorem a208_1 {kk : Nat → RO} : rA (laz Θ S ω) (gb Θ + 208) 6 1 kk = kk (gb Θ + 209) := r6_1 rfl
theorem a208_2 {kk : Nat → RO} : rA (laz Θ S ω) (gb Θ + 208) 6 2 kk = kk (gb Θ + 210) := r6_2 rfl
theorem a208_3 {kk : Int32 → RO} : rI (laz Θ S ω) (gb Θ + 208) 6 3 kk = kk (zF S 208 3) := r6_3 rfl
theorem b208_3 {v : Int32} {kk : OW → RO} : wF (laz Θ S ω) (gb Θ + 208) 6 3 (.int v) kk = kk (laz Θ (uF S 208 3 v) ω) := w6_3 rfl
theorem a208_4 {kk : Int32 → RO} : rI (laz Θ S ω) (gb Θ + 208) 6 4 kk = kk (zF S 208 4) := r6_4 rfl
theorem b208_4 {v : Int32} {kk : OW → RO} : wF (laz Θ S ω) (gb Θ + 208) 6 4 (.int v) kk = kk (laz Θ (uF S 208 4 v) ω) := w6_4 rfl
theorem a208_5 {kk : Int32 → RO} : rI (laz Θ S ω) (gb Θ + 208) 6 5 kk = kk (zF S 208 5) := r6_5 rfl
theorem b208_5 {v : Int32} {kk : OW → RO} : wF (laz Θ S ω) (gb Θ + 208) 6 5 (.int v) kk = kk (laz Θ (uF S 208 5 v) ω) := w6_5 rfl
theorem a208_6 {kk : Int32 → RO} : rI (laz Θ S ω) (gb Θ + 208) 6 6 kk = kk (zF S 208 6) := r6_6 rfl
theorem b208_6 {v : Int32} {kk : OW → RO} : wF (laz Θ S ω) (gb Θ + 208) 6 6 (.int v) kk = kk (laz Θ (uF S 208 6 v) ω) := w6_6 rfl
theorem a208_7 {kk : Int32 → RO} : rI (laz Θ S ω) (gb Θ + 208) 6 7 kk = kk (zF S 208 7) := r6_7 rfl
theorem b208_7 {v : Int32} {kk : OW → RO} : wF (laz Θ S ω) (gb Θ + 208) 6 7 (.int v) kk = kk (laz Θ (uF S 208 7 v) ω) := w6_7 rfl
theorem a208_8 {kk : Int32 → RO} : rI (laz Θ S ω) (gb Θ + 208) 6 8 kk = kk (zF S 208 8) := r6_8 rfl
theorem b208_8 {v : Int32} {kk : OW → RO} : wF (laz Θ S ω) (gb Θ + 208) 6 8 (.int v) kk = kk (laz Θ (uF S 208 8 v) ω) := w6_8 rfl
theorem a208_9 {kk : Int32 → RO} : rI (laz Θ S ω) (gb Θ + 208) 6 9 kk = kk (zF S 208 9) := r6_9 rfl
theorem b208_9 {v : Int32} {kk : OW → RO} : wF (laz Θ S ω) (gb Θ + 208) 6 9 (.int v) kk = kk (laz Θ (uF S 208 9 v) ω) := w6_9 rfl
theorem a208_10 {kk : Nat → RO} : rA (laz Θ S ω) (gb Θ + 208) 6 10 kk = kk (gb Θ + 211) := r6_10 rfl
theorem a208_11 {kk : Nat → RO} : rA (laz Θ S ω) (gb Θ + 208) 6 11 kk = kk (gb Θ + 212) := r6_11 rfl
theorem a208_12 {kk : Int32 → RO} : rI (laz Θ S ω) (gb Θ + 208) 6 12 kk = kk (zF S 208 12) := r6_12 rfl
theorem b208_12 {v : Int32} {kk : OW → RO} : wF (laz Θ S ω) (gb Θ + 208) 6 12 (.int v) kk = kk (laz Θ (uF S 208 12 v) ω) := w6_12 rfl
theorem a208_13 {kk : Int32 → RO} : rI (laz Θ S ω) (gb Θ + 208) 6 13 kk = kk (zF S 208 13) := r6_13 rfl
theorem b208_13 {v : Int32} {kk : OW → RO} : wF (laz Θ S ω) (gb Θ + 208) 6 13 (.int v) kk = kk (laz Θ (uF S 208 13 v) ω) := w6_13 rfl
theorem a208_14 {kk : Nat → RO} : rA (laz Θ S ω) (gb Θ + 208) 6 14 kk = kk (gb Θ + 213) := r6_14 rfl
theorem d208 {r : RO} : cO (laz Θ S ω) (gb Θ + 208) 6 r = r := c6 rfl
theorem a214_0 {kk : Int32 → RO} : rI (laz Θ S ω) (gb Θ + 214) 9 0 kk = kk (zF S 214 0) := r9_0 rfl
theorem b214_0 {v : Int32} {kk : OW → RO} : wF (laz Θ S ω) (gb Θ + 214) 9 0 (.int v) kk = kk (laz Θ (uF S 214 0 v) ω) := w9_0 rfl
theorem a214_1 {kk : Nat → RO} : rA (laz Θ S ω) (gb Θ + 214) 9 1 kk = kk (gb Θ + 215) := r9_1 rfl
theorem a214_2 {kk : Int32 → RO} : rI (laz Θ S ω) (gb Θ + 214) 9 2 kk = kk (zF S 214 2) := r9_2 rfl
theorem b214_2 {v : Int32} {kk : OW → RO} : wF (laz Θ S ω) (gb Θ + 214) 9 2 (.int v) kk = kk (laz Θ (uF S 214 2 v) ω) := w9_2 rfl
theorem a214_3 {kk : Int32 → RO} : rI (laz Θ S ω) (gb Θ + 214) 9 3 kk = kk (zF S 214 3) := r9_3 rfl
theorem b214_3 {v : Int32} {kk : OW → RO} : wF (laz Θ S ω) (gb Θ + 214) 9 3 (.int v) kk = kk (laz Θ (uF S 214 3 v) ω) := w9_3 rfl
theorem a214_4 {kk : Nat → RO} : rA (laz Θ S ω) (gb Θ + 214) 9 4 kk = kk (zR S 214 4) := r9_4 rfl
theorem b214_4 {a : Nat} {kk : OW → RO} : wF (laz Θ S ω) (gb Θ + 214) 9 4 (.ref a) kk = kk (laz Θ (uR S 214 4 a) ω) := w9_4 rfl
theorem a214_5 {kk : Nat → RO} : rA (laz Θ S ω) (gb Θ + 214) 9 5 kk = kk (zR S 214 5) := r9_5 rfl
theorem b214_5 {a : Nat} {kk : OW → RO} : wF (laz Θ S ω) (gb Θ + 214) 9 5 (.ref a) kk = kk (laz Θ (uR S 214 5 a) ω) := w9_5 rfl
theorem a214_6 {kk : Nat → RO} : rA (laz Θ S ω) (gb Θ + 214) 9 6 kk = kk (gb Θ + 14) := r9_6 rfl
theorem a214_7 {kk : Nat → RO} : rA (laz Θ S ω) (gb Θ + 214) 9 7 kk = kk (gb Θ + 202) := r9_7 rfl
theorem d214 {r : RO} : cO (laz Θ S ω) (gb Θ + 214) 9 r = r := c9 rfl
theorem a218_0 {kk : Int32 → RO} : rI (laz Θ S ω) (gb Θ + 218) 11 0 kk = kk (zF S 218 0) := r11_0 rfl
theorem b218_0 {v : Int32} {kk : OW → RO} : wF (laz Θ S ω) (gb Θ + 218) 11 0 (.int v) kk = kk (laz Θ (uF S 218 0 v) ω) := w11_0 rfl
theorem a218_1 {kk : Nat → RO} : rA (laz Θ S ω) (gb Θ + 218) 11 1 kk = kk (gb Θ + 219) := r11_1 rfl
theorem a218_2 {kk : Nat → RO} : rA (laz Θ S ω) (gb Θ + 218) 11 2 kk = kk (gb Θ + 220) := r11_2 rfl
theorem a218_3 {kk : Nat → RO} : rA (laz Θ S ω) (gb Θ + 218) 11 3 kk = kk (gb Θ + 221) := r11_3 rfl
theorem a218_4 {kk : Nat → RO} : rA (laz Θ S ω) (gb Θ + 218) 11 4 kk = kk (gb Θ + 222) := r11_4 rfl
theorem a218_5 {kk : Nat → RO} : rA (laz Θ S ω) (gb Θ + 218) 11 5 kk = kk (gb Θ + 223) := r11_5 rfl
theorem a218_6 {kk : Int32 → RO} : rI (laz Θ S ω) (gb Θ + 218) 11 6 kk = kk (zF S 218 6) := r11_6 rfl
theorem b218_6 {v : Int32} {kk : OW → RO} : wF (laz Θ S ω) (gb Θ + 218) 11 6 (.int v) kk = kk (laz Θ (uF S 218 6 v) ω) := w11_6 rfl
theorem a218_7 {kk : Int32 → RO} : rI (laz Θ S ω) (gb Θ + 218) 11 7 kk = kk (zF S 218 7) := r11_7 rfl
theorem b218_7 {v : Int32} {kk : OW → RO} : wF (laz Θ S ω) (gb Θ + 218) 11 7 (.int v) kk = kk (laz Θ (uF S 218 7 v) ω) := w11_7 rfl
theorem a218_8 {kk : Nat → RO} : rA (laz Θ S ω) (gb Θ + 218) 11 8 kk = kk (gb Θ + 224) := r11_8 rfl
theorem a218_9 {kk : Int32 → RO} : rI (laz Θ S ω) (gb Θ + 218) 11 9 kk = kk (zF S 218 9) := r11_9 rfl
theorem b218_9 {v : Int32} {kk : OW → RO} : wF (laz Θ S ω) (gb Θ + 218) 11 9 (.int v) kk = kk (laz Θ (uF S 218 9 v) ω) := w11_9 rfl
theorem a218_10 {kk : Int32 → RO} : rI (laz Θ S ω) (gb Θ + 218) 11 10 kk = kk (zF S 218 10) := r11_10 rfl
theorem b218_10 {v : Int32} {kk : OW → RO} : wF (laz Θ S ω) (gb Θ + 218) 11 10 (.int v) kk = kk (laz Θ (uF S 218 10 v) ω) := w11_10 rfl
theorem a218_11 {kk : Int32 → RO} : rI (laz Θ S ω) (gb Θ + 218) 11 11 kk = kk (zF S 218 11) := r11_11 rfl
theorem b218_11 {v : Int32} {kk : OW → RO} : wF (laz Θ S ω) (gb Θ + 218) 11 11 (.int v) kk = kk (laz Θ (uF S 218 11 v) ω) := w11_11 rfl
theorem a218_12 {kk : Int32 → RO} : rI (laz Θ S ω) (gb Θ + 218) 11 12 kk = kk (zF S 218 12) := r11_12 rfl
theorem b218_12 {v : Int32} {kk : OW → RO} : wF (laz Θ S ω) (gb Θ + 218) 11 12 (.int v) kk = kk (laz Θ (uF S 218 12 v) ω) := w11_12 rfl
theorem a218_13 {kk : Int32 → RO} : rI (laz Θ S ω) (gb Θ + 218) 11 13 kk = kk (zF S 218 13) := r11_13 rfl
theorem b218_13 {v : Int32} {kk : OW → RO} : wF (laz Θ S ω) (gb Θ + 218) 11 13 (.int v) kk = kk (laz Θ (uF S 218 13 v) ω) := w11_13 rfl
theorem a218_14 {kk : Int32 → RO} : rI (laz Θ S ω) (gb Θ + 218) 11 14 kk = kk (zF S 218 14) := r11_14 rfl
theorem b218_14 {v : Int32} {kk : OW → RO} : wF (laz Θ S ω) (gb Θ + 218) 11 14 (.int v) kk = kk (laz Θ (uF S 218 14 v) ω) := w11_14 rfl
theorem a218_15 {kk : Nat → RO} : rA (laz Θ S ω) (gb Θ + 218) 11 15 kk = kk (gb Θ + 225) := r11_15 rfl
theorem a218_16 {kk : Int32 → RO} : rI (laz Θ S ω) (gb Θ + 218) 11 16 kk = kk (zF S 218 16) := r11_16 rfl
theorem b218_16 {v : Int32} {kk : OW → RO} : wF (laz Θ S ω) (gb Θ + 218) 11 16 (.int v) kk = kk (laz Θ (uF S 218 16 v) ω) := w11_16 rfl
theorem a218_17 {kk : Nat → RO} : rA (laz Θ S ω) (gb Θ + 218) 11 17 kk = kk (gb Θ + 226) := r11_17 rfl
theorem a218_18 {kk : Int32 → RO} : rI (laz Θ S ω) (gb Θ + 218) 11 18 kk = kk (zF S 218 18) := r11_18 rfl
theorem b218_18 {v : Int32} {kk : OW → RO} : wF (laz Θ S ω) (gb Θ + 218) 11 18 (.int v) kk = kk (laz Θ (uF S 218 18 v) ω) := w11_18 rfl
theorem a218_19 {kk : Int32 → RO} : rI (laz Θ S ω) (gb Θ + 218) 11 19 kk = kk (zF S 218 19) := r11_19 rfl
theorem b218_19 {v : Int32} {kk : OW → RO} : wF (laz Θ S ω) (gb Θ + 218) 11 19 (.int v) kk = kk (laz Θ (uF S 218 19 v) ω) := w11_19 rfl
theorem a218_20 {kk : Int32 → RO} : rI (laz Θ S ω) (gb Θ + 218) 11 20 kk = kk (zF S 218 20) := r11_20 rfl
theorem b218_20 {v : Int32} {kk : OW → RO} : wF (laz Θ S ω) (gb Θ + 218) 11 20 (.int v) kk = kk (laz Θ (uF S 218 20 v) ω) := w11_20 rfl
theorem a218_21 {kk : Int32 → RO} : rI (laz Θ S ω) (gb Θ + 218) 11 21 kk = kk (zF S 218 21) := r11_21 rfl
theorem b218_21 {v : Int32} {kk : OW → RO} : wF (laz Θ S ω) (gb Θ + 218) 11 21 (.int v) kk = kk (laz Θ (uF S 218 21 v) ω) := w11_21 rfl
theorem a218_22 {kk : Int32 → RO} : rI (laz Θ S ω) (gb Θ + 218) 11 22 kk = kk (zF S 218 22) := r11_22 rfl
theorem b218_22 {v : Int32} {kk : OW → RO} : wF (laz Θ S ω) (gb Θ + 218) 11 22 (.int v) kk = kk (laz Θ (uF S 218 22 v) ω) := w11_22 rfl
theorem a218_23 {kk : Int32 → RO} : rI (laz Θ S ω) (gb Θ + 218) 11 23 kk = kk (zF S 218 23) := r11_23 rfl
theorem b218_23 {v : Int32} {kk : OW → RO} : wF (laz Θ S ω) (gb Θ + 218) 11 23 (.int v) kk = kk (laz Θ (uF S 218 23 v) ω) := w11_23 rfl
theorem a218_24 {kk : Int32 → RO} : rI (laz Θ S ω) (gb Θ + 218) 11 24 kk = kk (zF S 218 24) := r11_24 rfl
theorem b218_24 {v : Int32} {kk : OW → RO} : wF (laz Θ S ω) (gb Θ + 218) 11 24 (.int v) kk = kk (laz Θ (uF S 218 24 v) ω) := w11_24 rfl
theorem a218_25 {kk : Nat → RO} : rA (laz Θ S ω) (gb Θ + 218) 11 25 kk = kk (gb Θ + 227) := r11_25 rfl
theorem a218_26 {kk : Nat → RO} : rA (laz Θ S ω) (gb Θ + 218) 11 26 kk = kk (gb Θ + 228) := r11_26 rfl
theorem a218_27 {kk : Nat → RO} : rA (laz Θ S ω) (gb Θ + 218) 11 27 kk = kk (gb Θ + 229) := r11_27 rfl
theorem a218_28 {kk : Int32 → RO} : rI (laz Θ S ω) (gb Θ + 218) 11 28 kk = kk (zF S 218 28) := r11_28 rfl
theorem b218_28 {v : Int32} {kk : OW → RO} : wF (laz Θ S ω) (gb Θ + 218) 11 28 (.int v) kk = kk (laz Θ (uF S 218 28 v) ω) := w11_28 rfl
theorem a218_29 {kk : Int32 → RO} : rI (laz Θ S ω) (gb Θ + 218) 11 29 kk = kk (zF S 218 29) := r11_29 rfl
theorem b218_29 {v : Int32} {kk : OW → RO} : wF (laz Θ S ω) (gb Θ + 218) 11 29 (.int v) kk = kk (laz Θ (uF S 218 29 v) ω) := w11_29 rfl
theorem a218_30 {kk : Int32 → RO} : rI (laz Θ S ω) (gb Θ + 218) 11 30 kk = kk (zF S 218 30) := r11_30 rfl
theorem b218_30 {v : Int32} {kk : OW → RO} : wF (laz Θ S ω) (gb Θ + 218) 11 30 (.int v) kk = kk (laz Θ (uF S 218 30 v) ω) := w11_30 rfl
theorem a218_31 {kk : Int32 → RO} : rI (laz Θ S ω) (gb Θ + 218) 11 31 kk = kk (zF S 218 31) := r11_31 rfl
theorem b218_31 {v : Int32} {kk : OW → RO} : wF (laz Θ S ω) (gb Θ + 218) 11 31 (.int v) kk = kk (laz Θ (uF S 218 31 v) ω) := w11_31 rfl
theorem a218_32 {kk : Int32 → RO} : rI (laz Θ S ω) (gb Θ + 218) 11 32 kk = kk (zF S 218 32) := r11_32 rfl
theorem b218_32 {v : Int32} {kk : OW → RO} : wF (laz Θ S ω) (gb Θ + 218) 11 32 (.int v) kk = kk (laz Θ (uF S 218 32 v) ω) := w11_32 rfl
theorem a218_33 {kk : Nat → RO} : rA (laz Θ S ω) (gb Θ + 218) 11 33 kk = kk (gb Θ + 230) := r11_33 rfl
theorem a218_34 {kk : Nat → RO} : rA (laz Θ S ω) (gb Θ + 218) 11 34 kk = kk (gb Θ + 231) := r11_34 rfl
theorem a218_35 {kk : Nat → RO} : rA (laz Θ S ω) (gb Θ + 218) 11 35 kk = kk (gb Θ + 232) := r11_35 rfl
theorem a218_36 {kk : Int32 → RO} : rI (laz Θ S ω) (gb Θ + 218) 11 36 kk = kk (zF S 218 36) := r11_36 rfl
theorem b218_36 {v : Int32} {kk : OW → RO} : wF (laz Θ S ω) (gb Θ + 218) 11 36 (.int v) kk = kk (laz Θ (uF S 218 36 v) ω) := w11_36 rfl
theorem a218_37 {kk : Nat → RO} : rA (laz Θ S ω) (gb Θ + 218) 11 37 kk = kk (gb Θ + 233) := r11_37 rfl
theorem d218 {r : RO} : cO (laz Θ S ω) (gb Θ + 218) 11 r = r := c11 rfl
end LY
