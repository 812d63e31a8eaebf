/-! ===== the shapes, by name ===== -/
def jushr (x v : Int32) : Int32 := (x.toUInt32 >>> (v.toUInt32 &&& Int32.toUInt32 31)).toInt32
def zChb (c : Nat) : Prop := Hc[c]? = some (100, 7, [0, 0, 0, 0, 0, 0, 0])
def zGds (g : Nat) : Prop := Hc[g]? = some (101, 7, [0, 0, 0, 0, 0, 0, 0])
def zRow (r n : Nat) : Prop := Hc[r]? = some (105, 1, [r + 3]) ∧ Hc[r + 1]? = some (0, n, [])
def zArr (r n : Nat) : Prop := Hc[r]? = some (0, n, [])
def zStk (b : Nat) : Prop := b ∈ [49, 76, 103, 132, 159, 186, 213, 240, 267, 294, 321]
def zStp (s : Nat) : Prop := s ∈ [5, 27]
theorem zStk_sh {b : Nat} (h : zStk b) : Hc[b]? = some (107, 17, [7, 0, 0, b + 3, b + 5, b + 7, b + 9, b + 11, b + 13, b + 15, b + 17, 0, b + 19, b + 21, b + 23, b + 25, b + 27]) := (by decide +kernel : ∀ b ∈ [49, 76, 103, 132, 159, 186, 213, 240, 267, 294, 321], Hc[b]? = some (107, 17, [7, 0, 0, b + 3, b + 5, b + 7, b + 9, b + 11, b + 13, b + 15, b + 17, 0, b + 19, b + 21, b + 23, b + 25, b + 27])) b h
theorem zStk_r3 {b : Nat} (h : zStk b) : zRow (b + 1) 40 := (by decide +kernel : ∀ b ∈ [49, 76, 103, 132, 159, 186, 213, 240, 267, 294, 321], Hc[b + 1]? = some (105, 1, [b + 1 + 3]) ∧ Hc[b + 1 + 1]? = some (0, 40, [])) b h
theorem zStk_r4 {b : Nat} (h : zStk b) : zRow (b + 3) 40 := (by decide +kernel : ∀ b ∈ [49, 76, 103, 132, 159, 186, 213, 240, 267, 294, 321], Hc[b + 3]? = some (105, 1, [b + 3 + 3]) ∧ Hc[b + 3 + 1]? = some (0, 40, [])) b h
theorem zStk_r5 {b : Nat} (h : zStk b) : zRow (b + 5) 40 := (by decide +kernel : ∀ b ∈ [49, 76, 103, 132, 159, 186, 213, 240, 267, 294, 321], Hc[b + 5]? = some (105, 1, [b + 5 + 3]) ∧ Hc[b + 5 + 1]? = some (0, 40, [])) b h
theorem zStk_r6 {b : Nat} (h : zStk b) : zRow (b + 7) 40 := (by decide +kernel : ∀ b ∈ [49, 76, 103, 132, 159, 186, 213, 240, 267, 294, 321], Hc[b + 7]? = some (105, 1, [b + 7 + 3]) ∧ Hc[b + 7 + 1]? = some (0, 40, [])) b h
theorem zStk_r7 {b : Nat} (h : zStk b) : zRow (b + 9) 40 := (by decide +kernel : ∀ b ∈ [49, 76, 103, 132, 159, 186, 213, 240, 267, 294, 321], Hc[b + 9]? = some (105, 1, [b + 9 + 3]) ∧ Hc[b + 9 + 1]? = some (0, 40, [])) b h
theorem zStk_r8 {b : Nat} (h : zStk b) : zRow (b + 11) 40 := (by decide +kernel : ∀ b ∈ [49, 76, 103, 132, 159, 186, 213, 240, 267, 294, 321], Hc[b + 11]? = some (105, 1, [b + 11 + 3]) ∧ Hc[b + 11 + 1]? = some (0, 40, [])) b h
theorem zStk_r9 {b : Nat} (h : zStk b) : zRow (b + 13) 40 := (by decide +kernel : ∀ b ∈ [49, 76, 103, 132, 159, 186, 213, 240, 267, 294, 321], Hc[b + 13]? = some (105, 1, [b + 13 + 3]) ∧ Hc[b + 13 + 1]? = some (0, 40, [])) b h
theorem zStk_r10 {b : Nat} (h : zStk b) : zRow (b + 15) 40 := (by decide +kernel : ∀ b ∈ [49, 76, 103, 132, 159, 186, 213, 240, 267, 294, 321], Hc[b + 15]? = some (105, 1, [b + 15 + 3]) ∧ Hc[b + 15 + 1]? = some (0, 40, [])) b h
theorem zStk_r12 {b : Nat} (h : zStk b) : zRow (b + 17) 8 := (by decide +kernel : ∀ b ∈ [49, 76, 103, 132, 159, 186, 213, 240, 267, 294, 321], Hc[b + 17]? = some (105, 1, [b + 17 + 3]) ∧ Hc[b + 17 + 1]? = some (0, 8, [])) b h
theorem zStk_r13 {b : Nat} (h : zStk b) : zRow (b + 19) 3 := (by decide +kernel : ∀ b ∈ [49, 76, 103, 132, 159, 186, 213, 240, 267, 294, 321], Hc[b + 19]? = some (105, 1, [b + 19 + 3]) ∧ Hc[b + 19 + 1]? = some (0, 3, [])) b h
theorem zStk_r14 {b : Nat} (h : zStk b) : zRow (b + 21) 3 := (by decide +kernel : ∀ b ∈ [49, 76, 103, 132, 159, 186, 213, 240, 267, 294, 321], Hc[b + 21]? = some (105, 1, [b + 21 + 3]) ∧ Hc[b + 21 + 1]? = some (0, 3, [])) b h
theorem zStk_r15 {b : Nat} (h : zStk b) : zRow (b + 23) 3 := (by decide +kernel : ∀ b ∈ [49, 76, 103, 132, 159, 186, 213, 240, 267, 294, 321], Hc[b + 23]? = some (105, 1, [b + 23 + 3]) ∧ Hc[b + 23 + 1]? = some (0, 3, [])) b h
theorem zStk_r16 {b : Nat} (h : zStk b) : zRow (b + 25) 10 := (by decide +kernel : ∀ b ∈ [49, 76, 103, 132, 159, 186, 213, 240, 267, 294, 321], Hc[b + 25]? = some (105, 1, [b + 25 + 3]) ∧ Hc[b + 25 + 1]? = some (0, 10, [])) b h
theorem zStp_sh {s : Nat} (h : zStp s) : Hc[s]? = some (106, 17, [0, s + 3, s + 4, 0, s + 5, s + 6, 0, s + 7, s + 9, s + 11, 0, s + 13, 0, 0, 0, 0, 0]) := (by decide +kernel : ∀ s ∈ [5, 27], Hc[s]? = some (106, 17, [0, s + 3, s + 4, 0, s + 5, s + 6, 0, s + 7, s + 9, s + 11, 0, s + 13, 0, 0, 0, 0, 0])) s h
theorem zStp_r7 {s : Nat} (h : zStp s) : zRow (s + 5) 10 := (by decide +kernel : ∀ s ∈ [5, 27], Hc[s + 5]? = some (105, 1, [s + 5 + 3]) ∧ Hc[s + 5 + 1]? = some (0, 10, [])) s h
theorem zStp_r8 {s : Nat} (h : zStp s) : zRow (s + 7) 10 := (by decide +kernel : ∀ s ∈ [5, 27], Hc[s + 7]? = some (105, 1, [s + 7 + 3]) ∧ Hc[s + 7 + 1]? = some (0, 10, [])) s h
theorem zStp_r9 {s : Nat} (h : zStp s) : zRow (s + 9) 10 := (by decide +kernel : ∀ s ∈ [5, 27], Hc[s + 9]? = some (105, 1, [s + 9 + 3]) ∧ Hc[s + 9 + 1]? = some (0, 10, [])) s h
theorem zStp_r11 {s : Nat} (h : zStp s) : zRow (s + 11) 8 := (by decide +kernel : ∀ s ∈ [5, 27], Hc[s + 11]? = some (105, 1, [s + 11 + 3]) ∧ Hc[s + 11 + 1]? = some (0, 8, [])) s h
theorem zStp_ng {s : Nat} (h : zStp s) : zGds (s + 2) := (by decide +kernel : ∀ s ∈ [5, 27], Hc[s + 2]? = some (101, 7, [0, 0, 0, 0, 0, 0, 0])) s h
theorem zStp_nc {s : Nat} (h : zStp s) : zChb (s + 4) := (by decide +kernel : ∀ s ∈ [5, 27], Hc[s + 4]? = some (100, 7, [0, 0, 0, 0, 0, 0, 0])) s h
theorem zStp_g {s i : Nat} (h : zStp s) (hi : i < 6) : zGds (s + 13 + i) := (by decide +kernel : ∀ s ∈ [5, 27], ∀ i, i < 6 → Hc[s + 13 + i]? = some (101, 7, [0, 0, 0, 0, 0, 0, 0])) s h i hi
theorem zStp_c {s i : Nat} (h : zStp s) (hi : i < 3) : zChb (s + 19 + i) := (by decide +kernel : ∀ s ∈ [5, 27], ∀ i, i < 3 → Hc[s + 19 + i]? = some (100, 7, [0, 0, 0, 0, 0, 0, 0])) s h i hi
theorem zStp_ga {s : Nat} (h : zStp s) : Hc[s + 1]? = some (11, 6, [s + 15, s + 16, s + 17, s + 18, s + 19, s + 20]) := (by decide +kernel : ∀ s ∈ [5, 27], Hc[s + 1]? = some (11, 6, [s + 15, s + 16, s + 17, s + 18, s + 19, s + 20])) s h
theorem zStp_ca {s : Nat} (h : zStp s) : Hc[s + 3]? = some (10, 3, [s + 21, s + 22, s + 23]) := (by decide +kernel : ∀ s ∈ [5, 27], Hc[s + 3]? = some (10, 3, [s + 21, s + 22, s + 23])) s h
theorem h_0 : Hc[0]? = some (109, 12, [3, 0, 5, 6, 7, 29, 51, 78, 105, 0, 132, 350]) := by decide +kernel
theorem h_3 : Hc[3]? = some (104, 6, [3, 0, 0, 0, 0, 0]) := by decide +kernel
theorem h_4 : Hc[4]? = some (108, 3, [0, 0, 0]) := by decide +kernel
theorem h_130 : Hc[130]? = some (102, 3, [133, 0, 0]) := by decide +kernel
theorem h_348 : Hc[348]? = some (103, 2, [351, 353]) := by decide +kernel
theorem h_353 : Hc[353]? = some (110, 24, [0, 356, 0, 0, 0, 0, 0, 0, 357, 358, 359, 0, 0, 360, 361, 0, 362, 0, 0, 363, 364, 0, 0, 0]) := by decide +kernel
theorem h_131 : Hc[131]? = some (17, 8, [134, 161, 188, 215, 242, 269, 296, 323]) := by decide +kernel
theorem h_354 : Hc[354]? = some (0, 900, []) := by decide +kernel
theorem h_355 : Hc[355]? = some (0, 472, []) := by decide +kernel
theorem h_356 : Hc[356]? = some (0, 472, []) := by decide +kernel
theorem h_357 : Hc[357]? = some (0, 472, []) := by decide +kernel
theorem h_358 : Hc[358]? = some (0, 24, []) := by decide +kernel
theorem h_359 : Hc[359]? = some (0, 3776, []) := by decide +kernel
theorem h_360 : Hc[360]? = some (0, 472, []) := by decide +kernel
theorem h_361 : Hc[361]? = some (0, 2025, []) := by decide +kernel
theorem h_362 : Hc[362]? = some (0, 2025, []) := by decide +kernel
theorem h_363 : Hc[363]? = some (1, 1, []) := by decide +kernel
theorem zStk_49 : zStk 49 := by unfold zStk; decide
theorem zStk_76 : zStk 76 := by unfold zStk; decide
theorem zStk_103 : zStk 103 := by unfold zStk; decide
theorem zStk_132 : zStk 132 := by unfold zStk; decide
theorem zStk_159 : zStk 159 := by unfold zStk; decide
theorem zStk_186 : zStk 186 := by unfold zStk; decide
theorem zStk_213 : zStk 213 := by unfold zStk; decide
theorem zStk_240 : zStk 240 := by unfold zStk; decide
theorem zStk_267 : zStk 267 := by unfold zStk; decide
theorem zStk_294 : zStk 294 := by unfold zStk; decide
theorem zStk_321 : zStk 321 := by unfold zStk; decide
theorem zStp_5 : zStp 5 := by unfold zStp; decide
theorem zStp_27 : zStp 27 := by unfold zStp; decide
theorem zRow_1 : zRow 1 900 := by unfold zRow; decide +kernel
theorem zRow_349 : zRow 349 1053 := by unfold zRow; decide +kernel
theorem zRow_351 : zRow 351 1053 := by unfold zRow; decide +kernel
