/-! ===== the reference: small methods (its state is the row 355) ===== -/
theorem za_354 : zArr 354 900 := h_354
theorem za_355 : zArr 355 472 := h_355
theorem za_356 : zArr 356 472 := h_356
theorem za_357 : zArr 357 472 := h_357
theorem za_360 : zArr 360 472 := h_360
/-- rows, columns -/
def gR (s : Int → Int) (c : Int) : Int := s (12 + 8 * c + 1)
def gC (s : Int → Int) (c : Int) : Int := s (12 + 8 * c + 2)
/-- goods g and o: one taints the other -/
def tnt (s : Int → Int) (g o : Int) : Bool := decide (g ≠ o) && decide (s (36 + 6 * o + 5) < s (36 + 6 * g + 4))
def bad (s : Int → Int) (g o : Int) : Bool := tnt s g o || tnt s o g
theorem bad_sym (s : Int → Int) (g o : Int) : bad s g o = bad s o g := Bool.or_comm _ _
section
variable {W : zW} {J : zJ} {Q : zO → zI → Prop}
theorem sp_176 (x0 x1 x2 : Int32) : wz W 176 0 [.int x0, .int x1, .int x2] [] (jm J) Q = Q (oB (decide (x1 ≤ x0) && decide (x0 ≤ x2))) (jm J) := by
  rw [sg_176_0, sg_176_14]
  simp only [sg_176_15, zk_l, zk_r, Option.toList_some, Option.toList_none, List.cons_append, List.nil_append, zrokB, zrokB0, zrokB1, zrokJ0, zrokJ1, and_true, true_and, and_self, if_true, if_false, b2_0, b2_1, b2_not, ite_self]
  by_cases h1 : x0 < x1
  · have h2 : ¬ x1 ≤ x0 := Int32.not_le.mpr h1
    simp only [h1, h2, if_true, decide_false, Bool.false_and]; rfl
  · have h2 : x1 ≤ x0 := Int32.not_lt.mp h1
    by_cases h3 : x2 < x0
    · have h4 : ¬ x0 ≤ x2 := Int32.not_le.mpr h3
      simp only [h1, h3, h4, if_true, if_false, decide_false, Bool.and_false]; rfl
    · have h4 : x0 ≤ x2 := Int32.not_lt.mp h3
      simp only [h1, h2, h3, h4, if_false, decide_true, Bool.and_self]; rfl
theorem sp_176j {a b c : Int} (a1 : -2147483648 ≤ a) (a2 : a < 2147483648) (b1 : -2147483648 ≤ b) (b2' : b < 2147483648) (c1 : -2147483648 ≤ c) (c2 : c < 2147483648) : wz W 176 0 [.int (jI a), .int (jI b), .int (jI c)] [] (jm J) Q = Q (oB (decide (b ≤ a) && decide (a ≤ c))) (jm J) := by
  rw [sp_176]
  simp (disch := first | assumption | omega) only [Int.add_zero, jI_nat, jI_add, jI_sub, jI_mul, jI_neg, jI_lt, jI_le, jI_eq, jI_lt0, jI_0lt, jI_le0, jI_0le, jI_eq0, jI_in, jI_dv, i_mod]
theorem sp_178 (b : Bool) (w : Int) : wz W 178 0 [.ref 353, .int (b2 b), .int (jI w)] [] (jm J) Q = Q (oB (!b)) (jm (if b = true then J else jrow J 353 (sset (J 353) 0 w))) := by
  rw [sg_178_0]
  cases b
  · simp only [sg_178_9, sg_178_18, zk_l, zk_r, Option.toList_some, Option.toList_none, List.cons_append, List.nil_append, zrokB, zrokB0, zrokB1, zrokJ0, zrokJ1, and_true, true_and, and_self, if_true, if_false, b2_0, b2_1, b2_not, ite_self, jI_cl, jm_n, jz_n, i_lit, i_c0, i_c1, Int.toNat_of_nonneg, Int.toNat_natCast, jrow_same, jrow_ne, jrow_jrow, sset_eq, sset_ne]; rfl
  · simp only [sg_178_9, sg_178_18, zk_l, zk_r, Option.toList_some, Option.toList_none, List.cons_append, List.nil_append, zrokB, zrokB0, zrokB1, zrokJ0, zrokJ1, and_true, true_and, and_self, if_true, if_false, b2_0, b2_1, b2_not, ite_self]; rfl
theorem sp_178t (w : Int) : wz W 178 0 [.ref 353, .int (b2 true), .int (jI w)] [] (jm J) Q = Q (oB false) (jm J) := sp_178 true w
theorem sp_178f (w : Int) : wz W 178 0 [.ref 353, .int (b2 false), .int (jI w)] [] (jm J) Q = Q (oB true) (jm (jrow J 353 (sset (J 353) 0 w))) := sp_178 false w
theorem sp_219 {c k : Int} (h0 : 0 ≤ 12 + 8 * c + k) (h1 : 12 + 8 * c + k < 472) (h2 : 0 ≤ c) (h3 : 0 ≤ k) : wz W 219 0 [.ref 353, .int (jI c), .int (jI k)] [] (jm J) Q = Q (oI (J 355 (12 + 8 * c + k))) (jm J) := by
  rw [sg_219_0]
  simp (disch := first | assumption | omega) only [zk_l, zk_r, Option.toList_some, Option.toList_none, List.cons_append, List.nil_append, zrokB, zrokB0, zrokB1, zrokJ0, zrokJ1, and_true, true_and, and_self, if_true, if_false, b2_0, b2_1, b2_not, ite_self, Int.add_zero, jI_nat, jI_add, jI_sub, jI_mul, jI_neg, jI_lt, jI_le, jI_eq, jI_lt0, jI_0lt, jI_le0, jI_0le, jI_eq0, jI_in, jI_dv, i_mod, jI_cl, jm_n, jz_n, i_lit, i_c0, i_c1, Int.toNat_of_nonneg, Int.toNat_natCast, jrow_same, jrow_ne, jrow_jrow, sset_eq, sset_ne]
theorem sp_220 {c k : Int} (h1 : 36 + 6 * c + k < 472) (h2 : 0 ≤ c) (h3 : 0 ≤ k) : wz W 220 0 [.ref 353, .int (jI c), .int (jI k)] [] (jm J) Q = Q (oI (J 355 (36 + 6 * c + k))) (jm J) := by
  rw [sg_220_0]
  simp (disch := first | assumption | omega) only [zk_l, zk_r, Option.toList_some, Option.toList_none, List.cons_append, List.nil_append, zrokB, zrokB0, zrokB1, zrokJ0, zrokJ1, and_true, true_and, and_self, if_true, if_false, b2_0, b2_1, b2_not, ite_self, Int.add_zero, jI_nat, jI_add, jI_sub, jI_mul, jI_neg, jI_lt, jI_le, jI_eq, jI_lt0, jI_0lt, jI_le0, jI_0le, jI_eq0, jI_in, jI_dv, i_mod, jI_cl, jm_n, jz_n, i_lit, i_c0, i_c1, Int.toNat_of_nonneg, Int.toNat_natCast, jrow_same, jrow_ne, jrow_jrow, sset_eq, sset_ne]
theorem sp_221 {c k : Int} (h1 : 72 + 7 * c + k < 472) (h2 : 0 ≤ c) (h3 : 0 ≤ k) : wz W 221 0 [.ref 353, .int (jI c), .int (jI k)] [] (jm J) Q = Q (oI (J 355 (72 + 7 * c + k))) (jm J) := by
  rw [sg_221_0]
  simp (disch := first | assumption | omega) only [zk_l, zk_r, Option.toList_some, Option.toList_none, List.cons_append, List.nil_append, zrokB, zrokB0, zrokB1, zrokJ0, zrokJ1, and_true, true_and, and_self, if_true, if_false, b2_0, b2_1, b2_not, ite_self, Int.add_zero, jI_nat, jI_add, jI_sub, jI_mul, jI_neg, jI_lt, jI_le, jI_eq, jI_lt0, jI_0lt, jI_le0, jI_0le, jI_eq0, jI_in, jI_dv, i_mod, jI_cl, jm_n, jz_n, i_lit, i_c0, i_c1, Int.toNat_of_nonneg, Int.toNat_natCast, jrow_same, jrow_ne, jrow_jrow, sset_eq, sset_ne]
theorem sp_226 {c k : Int} (h1 : 400 + 24 * c + k < 472) (h2 : 0 ≤ c) (h3 : 0 ≤ k) : wz W 226 0 [.ref 353, .int (jI c), .int (jI k)] [] (jm J) Q = Q (oI (J 355 (400 + 24 * c + k))) (jm J) := by
  rw [sg_226_0]
  simp (disch := first | assumption | omega) only [zk_l, zk_r, Option.toList_some, Option.toList_none, List.cons_append, List.nil_append, zrokB, zrokB0, zrokB1, zrokJ0, zrokJ1, and_true, true_and, and_self, if_true, if_false, b2_0, b2_1, b2_not, ite_self, Int.add_zero, jI_nat, jI_add, jI_sub, jI_mul, jI_neg, jI_lt, jI_le, jI_eq, jI_lt0, jI_0lt, jI_le0, jI_0le, jI_eq0, jI_in, jI_dv, i_mod, jI_cl, jm_n, jz_n, i_lit, i_c0, i_c1, Int.toNat_of_nonneg, Int.toNat_natCast, jrow_same, jrow_ne, jrow_jrow, sset_eq, sset_ne]
theorem sp_222 {c k v : Int} (h1 : 72 + 7 * c + k < 472) (h2 : 0 ≤ c) (h3 : 0 ≤ k) : wz W 222 0 [.ref 353, .int (jI c), .int (jI k), .int (jI v)] [] (jm J) Q = Q oV (jm (jrow J 355 (sset (J 355) (72 + 7 * c + k) v))) := by
  rw [sg_222_0]
  simp (disch := first | assumption | omega) only [zk_l, zk_r, Option.toList_some, Option.toList_none, List.cons_append, List.nil_append, zrokB, zrokB0, zrokB1, zrokJ0, zrokJ1, and_true, true_and, and_self, if_true, if_false, b2_0, b2_1, b2_not, ite_self, Int.add_zero, jI_nat, jI_add, jI_sub, jI_mul, jI_neg, jI_lt, jI_le, jI_eq, jI_lt0, jI_0lt, jI_le0, jI_0le, jI_eq0, jI_in, jI_dv, i_mod, jI_cl, jm_n, jz_n, i_lit, i_c0, i_c1, Int.toNat_of_nonneg, Int.toNat_natCast, jrow_same, jrow_ne, jrow_jrow, sset_eq, sset_ne]
theorem dec_lt (a b : Int) : decide (a ≤ b - 1) = decide (a < b) := by rw [decide_eq_decide]; omega
theorem sp_215 {a : Int} (h1 : -2147483648 ≤ a) (h2 : a < 2147483648) (h3 : 0 ≤ J 355 4) (h4 : J 355 4 ≤ 3) : wz W 215 0 [.ref 353, .int (jI a)] [] (jm J) Q = Q (oB (decide (0 ≤ a) && decide (a < J 355 4))) (jm J) := by
  rw [sg_215_0]
  simp (disch := first | assumption | omega) only [sp_176, sg_215_13, zk_l, zk_r, Option.toList_some, Option.toList_none, List.cons_append, List.nil_append, zrokB, zrokB0, zrokB1, zrokJ0, zrokJ1, and_true, true_and, and_self, if_true, if_false, b2_0, b2_1, b2_not, ite_self, Int.add_zero, jI_nat, jI_add, jI_sub, jI_mul, jI_neg, jI_lt, jI_le, jI_eq, jI_lt0, jI_0lt, jI_le0, jI_0le, jI_eq0, jI_in, jI_dv, i_mod, jI_cl, jm_n, jz_n, i_lit, i_c0, i_c1, Int.toNat_of_nonneg, Int.toNat_natCast, jrow_same, jrow_ne, jrow_jrow, sset_eq, sset_ne, dec_lt]
theorem sp_216 {a : Int} (h1 : -2147483648 ≤ a) (h2 : a < 2147483648) (h3 : 0 ≤ J 355 5) (h4 : J 355 5 ≤ 6) : wz W 216 0 [.ref 353, .int (jI a)] [] (jm J) Q = Q (oB (decide (0 ≤ a) && decide (a < J 355 5))) (jm J) := by
  rw [sg_216_0]
  simp (disch := first | assumption | omega) only [sp_176, sg_216_13, zk_l, zk_r, Option.toList_some, Option.toList_none, List.cons_append, List.nil_append, zrokB, zrokB0, zrokB1, zrokJ0, zrokJ1, and_true, true_and, and_self, if_true, if_false, b2_0, b2_1, b2_not, ite_self, Int.add_zero, jI_nat, jI_add, jI_sub, jI_mul, jI_neg, jI_lt, jI_le, jI_eq, jI_lt0, jI_0lt, jI_le0, jI_0le, jI_eq0, jI_in, jI_dv, i_mod, jI_cl, jm_n, jz_n, i_lit, i_c0, i_c1, Int.toNat_of_nonneg, Int.toNat_natCast, jrow_same, jrow_ne, jrow_jrow, sset_eq, sset_ne, dec_lt]
theorem sp_217 {a : Int} (h1 : -2147483648 ≤ a) (h2 : a < 2147483648) (h3 : 0 ≤ J 355 6) (h4 : J 355 6 ≤ 40) : wz W 217 0 [.ref 353, .int (jI a)] [] (jm J) Q = Q (oB (decide (0 ≤ a) && decide (a < J 355 6))) (jm J) := by
  rw [sg_217_0]
  simp (disch := first | assumption | omega) only [sp_176, sg_217_14, zk_l, zk_r, Option.toList_some, Option.toList_none, List.cons_append, List.nil_append, zrokB, zrokB0, zrokB1, zrokJ0, zrokJ1, and_true, true_and, and_self, if_true, if_false, b2_0, b2_1, b2_not, ite_self, Int.add_zero, jI_nat, jI_add, jI_sub, jI_mul, jI_neg, jI_lt, jI_le, jI_eq, jI_lt0, jI_0lt, jI_le0, jI_0le, jI_eq0, jI_in, jI_dv, i_mod, jI_cl, jm_n, jz_n, i_lit, i_c0, i_c1, Int.toNat_of_nonneg, Int.toNat_natCast, jrow_same, jrow_ne, jrow_jrow, sset_eq, sset_ne, dec_lt]
theorem sp_218 {a : Int} (h1 : -2147483648 ≤ a) (h2 : a < 2147483648) (h3 : 0 ≤ J 355 7) (h4 : J 355 7 ≤ 10) : wz W 218 0 [.ref 353, .int (jI a)] [] (jm J) Q = Q (oB (decide (0 ≤ a) && decide (a < J 355 7))) (jm J) := by
  rw [sg_218_0]
  simp (disch := first | assumption | omega) only [sp_176, sg_218_14, zk_l, zk_r, Option.toList_some, Option.toList_none, List.cons_append, List.nil_append, zrokB, zrokB0, zrokB1, zrokJ0, zrokJ1, and_true, true_and, and_self, if_true, if_false, b2_0, b2_1, b2_not, ite_self, Int.add_zero, jI_nat, jI_add, jI_sub, jI_mul, jI_neg, jI_lt, jI_le, jI_eq, jI_lt0, jI_0lt, jI_le0, jI_0le, jI_eq0, jI_in, jI_dv, i_mod, jI_cl, jm_n, jz_n, i_lit, i_c0, i_c1, Int.toNat_of_nonneg, Int.toNat_natCast, jrow_same, jrow_ne, jrow_jrow, sset_eq, sset_ne, dec_lt]
theorem sp_225 {c : Int} (h2 : 0 ≤ c) (h3 : c < 3) : wz W 225 0 [.ref 353, .int (jI c)] [] (jm J) Q = Q (oI (gR (J 355) c * gC (J 355) c)) (jm J) := by
  rw [sg_225_0]
  simp (disch := first | assumption | omega) only [sp_219, sg_225_6, sg_225_12, Int.add_zero, jI_nat, jI_add, jI_sub, jI_mul, jI_neg, jI_lt, jI_le, jI_eq, jI_lt0, jI_0lt, jI_le0, jI_0le, jI_eq0, jI_in, jI_dv, i_mod, zk_l, zk_r, Option.toList_some, Option.toList_none, List.cons_append, List.nil_append, zrokB, zrokB0, zrokB1, zrokJ0, zrokJ1, and_true, true_and, and_self, if_true, if_false, b2_0, b2_1, b2_not, ite_self, gR, gC]
theorem sp_224 {c a b : Int} (h2 : 0 ≤ c) (h3 : c < 3) : wz W 224 0 [.ref 353, .int (jI c), .int (jI a), .int (jI b)] [] (jm J) Q = Q (oI (gC (J 355) c * a + b)) (jm J) := by
  rw [sg_224_0]
  simp (disch := first | assumption | omega) only [sp_219, sg_224_6, Int.add_zero, jI_nat, jI_add, jI_sub, jI_mul, jI_neg, jI_lt, jI_le, jI_eq, jI_lt0, jI_0lt, jI_le0, jI_0le, jI_eq0, jI_in, jI_dv, i_mod, zk_l, zk_r, Option.toList_some, Option.toList_none, List.cons_append, List.nil_append, zrokB, zrokB0, zrokB1, zrokJ0, zrokJ1, and_true, true_and, and_self, if_true, if_false, b2_0, b2_1, b2_not, ite_self, gC]
theorem sp_223 {c a b : Int} (h2 : 0 ≤ c) (h3 : c < 3) (a1 : -2147483648 ≤ a) (a2 : a < 2147483648) (b1 : -2147483648 ≤ b) (b2' : b < 2147483648) (r1 : 1 ≤ gR (J 355) c) (r2 : gR (J 355) c ≤ 6) (c1 : 1 ≤ gC (J 355) c) (c2 : gC (J 355) c ≤ 4) :
    wz W 223 0 [.ref 353, .int (jI c), .int (jI a), .int (jI b)] [] (jm J) Q = Q (oB (decide (0 ≤ a) && decide (a < gR (J 355) c) && (decide (0 ≤ b) && decide (b < gC (J 355) c)))) (jm J) := by
  rw [sg_223_0]
  unfold gR gC at *
  simp (disch := first | assumption | omega) only [sp_219, sg_223_8, sg_223_13, sg_223_24, sg_223_29, sg_223_36, sg_223_37, sp_176, Int.add_zero, jI_nat, jI_add, jI_sub, jI_mul, jI_neg, jI_lt, jI_le, jI_eq, jI_lt0, jI_0lt, jI_le0, jI_0le, jI_eq0, jI_in, jI_dv, i_mod, zk_l, zk_r, Option.toList_some, Option.toList_none, List.cons_append, List.nil_append, zrokB, zrokB0, zrokB1, zrokJ0, zrokJ1, and_true, true_and, and_self, if_true, if_false, b2_0, b2_1, b2_not, ite_self, dec_lt]
  cases (decide (0 ≤ a) && decide (a < J 355 (12 + 8 * c + 1))) <;> cases (decide (0 ≤ b) && decide (b < J 355 (12 + 8 * c + 2))) <;> rfl
theorem sp_229 {c a b : Int} (h2 : 0 ≤ c) (h3 : c < 3) (a1 : 0 ≤ a) (a2 : a < 24) (b1 : 0 ≤ b) (b2' : b < 24) (c1 : 1 ≤ gC (J 355) c) (c2 : gC (J 355) c ≤ 4) :
    wz W 229 0 [.ref 353, .int (jI c), .int (jI a), .int (jI b), .float 0] [] (jm J) Q = Q (oB (nb (gC (J 355) c) a b)) (jm J) := by
  rw [sg_229_0]
  unfold gC at *
  simp (disch := first | assumption | omega) only [sp_219, sg_229_6, Int.add_zero, jI_nat, jI_add, jI_sub, jI_mul, jI_neg, jI_lt, jI_le, jI_eq, jI_lt0, jI_0lt, jI_le0, jI_0le, jI_eq0, jI_in, jI_dv, i_mod, zk_l, zk_r, Option.toList_some, Option.toList_none, List.cons_append, List.nil_append, zrokB, zrokB0, zrokB1, zrokJ0, zrokJ1, and_true, true_and, and_self, if_true, if_false, b2_0, b2_1, b2_not, ite_self]
  generalize J 355 (12 + 8 * c + 2) = w at *
  obtain rfl | rfl | rfl | rfl : w = 1 ∨ w = 2 ∨ w = 3 ∨ w = 4 := by omega
  all_goals
    simp (disch := first | assumption | omega) only [jI_dv, jabs_j, sg_229_42, Int.add_zero, jI_nat, jI_add, jI_sub, jI_mul, jI_neg, jI_lt, jI_le, jI_eq, jI_lt0, jI_0lt, jI_le0, jI_0le, jI_eq0, jI_in, jI_dv, i_mod, zk_l, zk_r, Option.toList_some, Option.toList_none, List.cons_append, List.nil_append, zrokB, zrokB0, zrokB1, zrokJ0, zrokJ1, and_true, true_and, and_self, if_true, if_false, b2_0, b2_1, b2_not, ite_self, ne_eq, not_false_eq_true, Int.reduceEq]
    unfold nb
    split
    · rename_i h; rw [decide_eq_true (by omega)]; rfl
    · rename_i h; rw [decide_eq_false (by omega)]; rfl
/-- the goods' numbers are small -/
def okSm (s : Int → Int) : Prop := ∀ j, 36 ≤ j → j < 72 → -2147483648 ≤ s j ∧ s j < 2147483648
theorem sp_227 {g o : Int} (h2 : 0 ≤ g) (h3 : g < 6) (h4 : 0 ≤ o) (h5 : o < 6) (e1 : -1000 ≤ J 355 (36 + 6 * g + 4)) (e2 : J 355 (36 + 6 * g + 4) ≤ 1000) (e3 : -1000 ≤ J 355 (36 + 6 * o + 5)) (e4 : J 355 (36 + 6 * o + 5) ≤ 1000) : wz W 227 0 [.ref 353, .int (jI g), .int (jI o)] [] (jm J) Q = Q (oB (tnt (J 355) g o)) (jm J) := by
  rw [sg_227_0]
  simp (disch := first | assumption | omega) only [sp_220, sg_227_11, sg_227_17, sg_227_24, sg_227_25, Int.add_zero, jI_nat, jI_add, jI_sub, jI_mul, jI_neg, jI_lt, jI_le, jI_eq, jI_lt0, jI_0lt, jI_le0, jI_0le, jI_eq0, jI_in, jI_dv, i_mod, zk_l, zk_r, Option.toList_some, Option.toList_none, List.cons_append, List.nil_append, zrokB, zrokB0, zrokB1, zrokJ0, zrokJ1, and_true, true_and, and_self, if_true, if_false, b2_0, b2_1, b2_not, ite_self]
  unfold tnt
  by_cases h : g = o
  · simp only [h, if_true, ne_eq, not_true, decide_false, Bool.false_and]; rfl
  · simp only [h, if_false, ne_eq, not_false_iff, decide_true, Bool.true_and]
    split
    · rename_i h9; rw [decide_eq_false (by omega)]; rfl
    · rename_i h9; rw [decide_eq_true (by omega)]; rfl
theorem sp_228 {g o : Int} (h2 : 0 ≤ g) (h3 : g < 6) (h4 : 0 ≤ o) (h5 : o < 6) (e1 : -1000 ≤ J 355 (36 + 6 * g + 4)) (e2 : J 355 (36 + 6 * g + 4) ≤ 1000) (e3 : -1000 ≤ J 355 (36 + 6 * o + 5)) (e4 : J 355 (36 + 6 * o + 5) ≤ 1000) (f1 : -1000 ≤ J 355 (36 + 6 * o + 4)) (f2 : J 355 (36 + 6 * o + 4) ≤ 1000) (f3 : -1000 ≤ J 355 (36 + 6 * g + 5)) (f4 : J 355 (36 + 6 * g + 5) ≤ 1000) : wz W 228 0 [.ref 353, .int (jI g), .int (jI o)] [] (jm J) Q = Q (oB (bad (J 355) g o)) (jm J) := by
  rw [sg_228_0]
  simp (disch := first | assumption | omega) only [sp_227, sg_228_6, sg_228_15, sg_228_18, sg_228_23, zk_l, zk_r, Option.toList_some, Option.toList_none, List.cons_append, List.nil_append, zrokB, zrokB0, zrokB1, zrokJ0, zrokJ1, and_true, true_and, and_self, if_true, if_false, b2_0, b2_1, b2_not, ite_self]
  unfold bad
  cases tnt (J 355) g o <;> cases tnt (J 355) o g <;> rfl
theorem gRC {r c : Int} (r1 : 1 ≤ r) (r2 : r ≤ 6) (c1 : 1 ≤ c) (c2 : c ≤ 4) : 1 ≤ r * c ∧ r * c ≤ 24 := by
  obtain rfl | rfl | rfl | rfl : c = 1 ∨ c = 2 ∨ c = 3 ∨ c = 4 := by omega
  all_goals omega
end
