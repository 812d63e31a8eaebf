/-! ===== calls: checks, and what only asks ===== -/
theorem sset_ss {f : Int → Int} {i u v : Int} : sset (sset f i u) i v = sset f i v := by
  funext j
  unfold sset
  split <;> rfl
section
variable {W : zW} {J : zJ} {Q : zO → zI → Prop} {k : Int}
theorem dvt {p : Prop} [Decidable p] (h : p) : decide p = true := decide_eq_true h

theorem sp_162v {a : Int} (h0 : 0 ≤ a) (h1 : a < J 5 0) (h2 : J 5 0 ≤ 100) : wz W 162 0 [.ref 0, .int (jI a)] [] (jm J) Q = Q oV (jm J) := by
  rw [sg_162_0]
  simp (disch := first | assumption | omega) only [zk_l, zk_r, Option.toList_some, Option.toList_none, List.cons_append, List.nil_append, zrokB, zrokB0, zrokB1, zrokJ0, zrokJ1, and_true, true_and, and_self, if_true, if_false, b2_0, b2_1, b2_not, ite_self, Int.add_zero, jI_nat, jI_add, jI_sub, jI_mul, jI_neg, jI_lt, jI_le, jI_eq, jI_lt0, jI_0lt, jI_le0, jI_0le, jI_eq0, jI_in, jI_dv, i_mod, jI_cl, jm_n, jz_n, i_lit, i_c0, i_c1, Int.toNat_of_nonneg, Int.toNat_natCast, jrow_same, jrow_ne, jrow_jrow, sset_eq, sset_ne]
  rw [if_neg (by omega), if_pos h1]
theorem sp_162n {a : Int} (a1 : -2147483648 ≤ a) (a2 : a < 2147483648) (h : ¬ (0 ≤ a ∧ a < J 5 0)) (h1 : 0 ≤ J 5 0) (h2 : J 5 0 ≤ 100) : wz W 162 0 [.ref 0, .int (jI a)] [] (jm J) Q = Q (oE 0) (jm J) := by
  rw [sg_162_0]
  simp (disch := first | assumption | omega) only [sg_162_15, zk_l, zk_r, Option.toList_some, Option.toList_none, List.cons_append, List.nil_append, zrokB, zrokB0, zrokB1, zrokJ0, zrokJ1, and_true, true_and, and_self, if_true, if_false, b2_0, b2_1, b2_not, ite_self, Int.add_zero, jI_nat, jI_add, jI_sub, jI_mul, jI_neg, jI_lt, jI_le, jI_eq, jI_lt0, jI_0lt, jI_le0, jI_0le, jI_eq0, jI_in, jI_dv, i_mod, jI_cl, jm_n, jz_n, i_lit, i_c0, i_c1, Int.toNat_of_nonneg, Int.toNat_natCast, jrow_same, jrow_ne, jrow_jrow, sset_eq, sset_ne]
  by_cases c : a < 0
  · rw [if_pos c]
  · rw [if_neg c, if_neg (by omega)]

theorem sp_163v {a : Int} (h0 : 0 ≤ a) (h1 : a < J 49 2) (h2 : J 49 2 ≤ 100) : wz W 163 0 [.ref 0, .int (jI a)] [] (jm J) Q = Q oV (jm J) := by
  rw [sg_163_0]
  simp (disch := first | assumption | omega) only [zk_l, zk_r, Option.toList_some, Option.toList_none, List.cons_append, List.nil_append, zrokB, zrokB0, zrokB1, zrokJ0, zrokJ1, and_true, true_and, and_self, if_true, if_false, b2_0, b2_1, b2_not, ite_self, Int.add_zero, jI_nat, jI_add, jI_sub, jI_mul, jI_neg, jI_lt, jI_le, jI_eq, jI_lt0, jI_0lt, jI_le0, jI_0le, jI_eq0, jI_in, jI_dv, i_mod, jI_cl, jm_n, jz_n, i_lit, i_c0, i_c1, Int.toNat_of_nonneg, Int.toNat_natCast, jrow_same, jrow_ne, jrow_jrow, sset_eq, sset_ne]
  rw [if_neg (by omega), if_pos h1]
theorem sp_163n {a : Int} (a1 : -2147483648 ≤ a) (a2 : a < 2147483648) (h : ¬ (0 ≤ a ∧ a < J 49 2)) (h1 : 0 ≤ J 49 2) (h2 : J 49 2 ≤ 100) : wz W 163 0 [.ref 0, .int (jI a)] [] (jm J) Q = Q (oE 0) (jm J) := by
  rw [sg_163_0]
  simp (disch := first | assumption | omega) only [sg_163_15, zk_l, zk_r, Option.toList_some, Option.toList_none, List.cons_append, List.nil_append, zrokB, zrokB0, zrokB1, zrokJ0, zrokJ1, and_true, true_and, and_self, if_true, if_false, b2_0, b2_1, b2_not, ite_self, Int.add_zero, jI_nat, jI_add, jI_sub, jI_mul, jI_neg, jI_lt, jI_le, jI_eq, jI_lt0, jI_0lt, jI_le0, jI_0le, jI_eq0, jI_in, jI_dv, i_mod, jI_cl, jm_n, jz_n, i_lit, i_c0, i_c1, Int.toNat_of_nonneg, Int.toNat_natCast, jrow_same, jrow_ne, jrow_jrow, sset_eq, sset_ne]
  by_cases c : a < 0
  · rw [if_pos c]
  · rw [if_neg c, if_neg (by omega)]

theorem sp_164v {a : Int} (h0 : 0 ≤ a) (h1 : a < J 5 3) (h2 : J 5 3 ≤ 100) : wz W 164 0 [.ref 0, .int (jI a)] [] (jm J) Q = Q oV (jm J) := by
  rw [sg_164_0]
  simp (disch := first | assumption | omega) only [zk_l, zk_r, Option.toList_some, Option.toList_none, List.cons_append, List.nil_append, zrokB, zrokB0, zrokB1, zrokJ0, zrokJ1, and_true, true_and, and_self, if_true, if_false, b2_0, b2_1, b2_not, ite_self, Int.add_zero, jI_nat, jI_add, jI_sub, jI_mul, jI_neg, jI_lt, jI_le, jI_eq, jI_lt0, jI_0lt, jI_le0, jI_0le, jI_eq0, jI_in, jI_dv, i_mod, jI_cl, jm_n, jz_n, i_lit, i_c0, i_c1, Int.toNat_of_nonneg, Int.toNat_natCast, jrow_same, jrow_ne, jrow_jrow, sset_eq, sset_ne]
  rw [if_neg (by omega), if_pos h1]
theorem sp_164n {a : Int} (a1 : -2147483648 ≤ a) (a2 : a < 2147483648) (h : ¬ (0 ≤ a ∧ a < J 5 3)) (h1 : 0 ≤ J 5 3) (h2 : J 5 3 ≤ 100) : wz W 164 0 [.ref 0, .int (jI a)] [] (jm J) Q = Q (oE 0) (jm J) := by
  rw [sg_164_0]
  simp (disch := first | assumption | omega) only [sg_164_15, zk_l, zk_r, Option.toList_some, Option.toList_none, List.cons_append, List.nil_append, zrokB, zrokB0, zrokB1, zrokJ0, zrokJ1, and_true, true_and, and_self, if_true, if_false, b2_0, b2_1, b2_not, ite_self, Int.add_zero, jI_nat, jI_add, jI_sub, jI_mul, jI_neg, jI_lt, jI_le, jI_eq, jI_lt0, jI_0lt, jI_le0, jI_0le, jI_eq0, jI_in, jI_dv, i_mod, jI_cl, jm_n, jz_n, i_lit, i_c0, i_c1, Int.toNat_of_nonneg, Int.toNat_natCast, jrow_same, jrow_ne, jrow_jrow, sset_eq, sset_ne]
  by_cases c : a < 0
  · rw [if_pos c]
  · rw [if_neg c, if_neg (by omega)]

theorem sp_165v {a : Int} (h0 : 0 ≤ a) (h1 : a < J 5 6) (h2 : J 5 6 ≤ 100) : wz W 165 0 [.ref 0, .int (jI a)] [] (jm J) Q = Q oV (jm J) := by
  rw [sg_165_0]
  simp (disch := first | assumption | omega) only [zk_l, zk_r, Option.toList_some, Option.toList_none, List.cons_append, List.nil_append, zrokB, zrokB0, zrokB1, zrokJ0, zrokJ1, and_true, true_and, and_self, if_true, if_false, b2_0, b2_1, b2_not, ite_self, Int.add_zero, jI_nat, jI_add, jI_sub, jI_mul, jI_neg, jI_lt, jI_le, jI_eq, jI_lt0, jI_0lt, jI_le0, jI_0le, jI_eq0, jI_in, jI_dv, i_mod, jI_cl, jm_n, jz_n, i_lit, i_c0, i_c1, Int.toNat_of_nonneg, Int.toNat_natCast, jrow_same, jrow_ne, jrow_jrow, sset_eq, sset_ne]
  rw [if_neg (by omega), if_pos h1]
theorem sp_165n {a : Int} (a1 : -2147483648 ≤ a) (a2 : a < 2147483648) (h : ¬ (0 ≤ a ∧ a < J 5 6)) (h1 : 0 ≤ J 5 6) (h2 : J 5 6 ≤ 100) : wz W 165 0 [.ref 0, .int (jI a)] [] (jm J) Q = Q (oE 0) (jm J) := by
  rw [sg_165_0]
  simp (disch := first | assumption | omega) only [sg_165_15, zk_l, zk_r, Option.toList_some, Option.toList_none, List.cons_append, List.nil_append, zrokB, zrokB0, zrokB1, zrokJ0, zrokJ1, and_true, true_and, and_self, if_true, if_false, b2_0, b2_1, b2_not, ite_self, Int.add_zero, jI_nat, jI_add, jI_sub, jI_mul, jI_neg, jI_lt, jI_le, jI_eq, jI_lt0, jI_0lt, jI_le0, jI_0le, jI_eq0, jI_in, jI_dv, i_mod, jI_cl, jm_n, jz_n, i_lit, i_c0, i_c1, Int.toNat_of_nonneg, Int.toNat_natCast, jrow_same, jrow_ne, jrow_jrow, sset_eq, sset_ne]
  by_cases c : a < 0
  · rw [if_pos c]
  · rw [if_neg c, if_neg (by omega)]

theorem sp_215v {a : Int} (h0 : 0 ≤ a) (h1 : a < J 355 4) (h2 : J 355 4 ≤ 3) : wz W 215 0 [.ref 353, .int (jI a)] [] (jm J) Q = Q (oB true) (jm J) := by
  rw [sp_215 (by omega) (by omega) (by omega) h2, dvt h0, dvt h1]
  rfl
theorem sp_215n {a : Int} (a1 : -2147483648 ≤ a) (a2 : a < 2147483648) (h : ¬ (0 ≤ a ∧ a < J 355 4)) (h1 : 0 ≤ J 355 4) (h2 : J 355 4 ≤ 3) : wz W 215 0 [.ref 353, .int (jI a)] [] (jm J) Q = Q (oB false) (jm J) := by
  rw [sp_215 a1 a2 h1 h2]
  by_cases c : 0 ≤ a
  · rw [decide_eq_false (show ¬ a < J 355 4 from fun h9 => h ⟨c, h9⟩), Bool.and_false]
  · rw [decide_eq_false c, Bool.false_and]

theorem sp_216v {a : Int} (h0 : 0 ≤ a) (h1 : a < J 355 5) (h2 : J 355 5 ≤ 6) : wz W 216 0 [.ref 353, .int (jI a)] [] (jm J) Q = Q (oB true) (jm J) := by
  rw [sp_216 (by omega) (by omega) (by omega) h2, dvt h0, dvt h1]
  rfl
theorem sp_216n {a : Int} (a1 : -2147483648 ≤ a) (a2 : a < 2147483648) (h : ¬ (0 ≤ a ∧ a < J 355 5)) (h1 : 0 ≤ J 355 5) (h2 : J 355 5 ≤ 6) : wz W 216 0 [.ref 353, .int (jI a)] [] (jm J) Q = Q (oB false) (jm J) := by
  rw [sp_216 a1 a2 h1 h2]
  by_cases c : 0 ≤ a
  · rw [decide_eq_false (show ¬ a < J 355 5 from fun h9 => h ⟨c, h9⟩), Bool.and_false]
  · rw [decide_eq_false c, Bool.false_and]

theorem sp_217v {a : Int} (h0 : 0 ≤ a) (h1 : a < J 355 6) (h2 : J 355 6 ≤ 40) : wz W 217 0 [.ref 353, .int (jI a)] [] (jm J) Q = Q (oB true) (jm J) := by
  rw [sp_217 (by omega) (by omega) (by omega) h2, dvt h0, dvt h1]
  rfl
theorem sp_217n {a : Int} (a1 : -2147483648 ≤ a) (a2 : a < 2147483648) (h : ¬ (0 ≤ a ∧ a < J 355 6)) (h1 : 0 ≤ J 355 6) (h2 : J 355 6 ≤ 40) : wz W 217 0 [.ref 353, .int (jI a)] [] (jm J) Q = Q (oB false) (jm J) := by
  rw [sp_217 a1 a2 h1 h2]
  by_cases c : 0 ≤ a
  · rw [decide_eq_false (show ¬ a < J 355 6 from fun h9 => h ⟨c, h9⟩), Bool.and_false]
  · rw [decide_eq_false c, Bool.false_and]

theorem sp_218v {a : Int} (h0 : 0 ≤ a) (h1 : a < J 355 7) (h2 : J 355 7 ≤ 10) : wz W 218 0 [.ref 353, .int (jI a)] [] (jm J) Q = Q (oB true) (jm J) := by
  rw [sp_218 (by omega) (by omega) (by omega) h2, dvt h0, dvt h1]
  rfl
theorem sp_218n {a : Int} (a1 : -2147483648 ≤ a) (a2 : a < 2147483648) (h : ¬ (0 ≤ a ∧ a < J 355 7)) (h1 : 0 ≤ J 355 7) (h2 : J 355 7 ≤ 10) : wz W 218 0 [.ref 353, .int (jI a)] [] (jm J) Q = Q (oB false) (jm J) := by
  rw [sp_218 a1 a2 h1 h2]
  by_cases c : 0 ≤ a
  · rw [decide_eq_false (show ¬ a < J 355 7 from fun h9 => h ⟨c, h9⟩), Bool.and_false]
  · rw [decide_eq_false c, Bool.false_and]

theorem sp_280v {a i : Int} (h0 : 0 ≤ a) (h1 : a < J 355 5) (h2 : J 355 5 ≤ 6) (i0 : 0 ≤ i) (i1 : i < 6) : wz W 280 0 [.ref 353, .int (jI a), .int (jI i)] [] (jm J) Q = Q (oI (J 355 (36 + 6 * a + i))) (jm (jrow J 353 (sset (J 353) 0 0))) := by
  rw [sg_280_0]
  simp (disch := first | assumption | omega) only [jI_cl, jm_n, jz_n, i_lit, i_c0, i_c1, Int.toNat_of_nonneg, Int.toNat_natCast, jrow_same, jrow_ne, jrow_jrow, sset_eq, sset_ne]
  rw [sp_216v h0 (by rw [jrow_ne (by decide)]; exact h1) (by rw [jrow_ne (by decide)]; exact h2)]
  simp only [zk_l, zk_r, Option.toList_some, Option.toList_none, List.cons_append, List.nil_append, zrokB, zrokB0, zrokB1, zrokJ0, zrokJ1, and_true, true_and, and_self, if_true, if_false, b2_0, b2_1, b2_not, ite_self]
  rw [sg_280_11, sp_178t]
  simp only [zk_l, zk_r, Option.toList_some, Option.toList_none, List.cons_append, List.nil_append, zrokB, zrokB0, zrokB1, zrokJ0, zrokJ1, and_true, true_and, and_self, if_true, if_false, b2_0, b2_1, b2_not, ite_self]
  rw [sg_280_15, if_pos (by decide), sp_220 (by omega) h0 i0, jrow_ne (by decide)]
  simp only [zk_l, zk_r, Option.toList_some, Option.toList_none, List.cons_append, List.nil_append, zrokB, zrokB0, zrokB1, zrokJ0, zrokJ1, and_true, true_and, and_self, if_true, if_false, b2_0, b2_1, b2_not, ite_self]
  rw [sg_280_28]
theorem sp_280n {a i : Int} (a1 : -2147483648 ≤ a) (a2 : a < 2147483648) (h : ¬ (0 ≤ a ∧ a < J 355 5)) (h1 : 0 ≤ J 355 5) (h2 : J 355 5 ≤ 6) : wz W 280 0 [.ref 353, .int (jI a), .int (jI i)] [] (jm J) Q = Q (oI 0) (jm (jrow J 353 (sset (J 353) 0 1))) := by
  rw [sg_280_0]
  simp (disch := first | assumption | omega) only [jI_cl, jm_n, jz_n, i_lit, i_c0, i_c1, Int.toNat_of_nonneg, Int.toNat_natCast, jrow_same, jrow_ne, jrow_jrow, sset_eq, sset_ne]
  rw [sp_216n a1 a2 (by rw [jrow_ne (by decide)]; exact h) (by rw [jrow_ne (by decide)]; exact h1) (by rw [jrow_ne (by decide)]; exact h2)]
  simp only [zk_l, zk_r, Option.toList_some, Option.toList_none, List.cons_append, List.nil_append, zrokB, zrokB0, zrokB1, zrokJ0, zrokJ1, and_true, true_and, and_self, if_true, if_false, b2_0, b2_1, b2_not, ite_self]
  rw [sg_280_11, sp_178f]
  simp only [sset_ss, zk_l, zk_r, Option.toList_some, Option.toList_none, List.cons_append, List.nil_append, zrokB, zrokB0, zrokB1, zrokJ0, zrokJ1, and_true, true_and, and_self, if_true, if_false, b2_0, b2_1, b2_not, ite_self, jI_cl, jm_n, jz_n, i_lit, i_c0, i_c1, Int.toNat_of_nonneg, Int.toNat_natCast, jrow_same, jrow_ne, jrow_jrow, sset_eq, sset_ne]
  rw [sg_280_15, if_neg (by decide), sg_280_28]

theorem sp_288v {a i : Int} (h0 : 0 ≤ a) (h1 : a < J 355 6) (h2 : J 355 6 ≤ 40) (i0 : 0 ≤ i) (i1 : i < 7) : wz W 288 0 [.ref 353, .int (jI a), .int (jI i)] [] (jm J) Q = Q (oI (J 355 (72 + 7 * a + i))) (jm (jrow J 353 (sset (J 353) 0 0))) := by
  rw [sg_288_0]
  simp (disch := first | assumption | omega) only [jI_cl, jm_n, jz_n, i_lit, i_c0, i_c1, Int.toNat_of_nonneg, Int.toNat_natCast, jrow_same, jrow_ne, jrow_jrow, sset_eq, sset_ne]
  rw [sp_217v h0 (by rw [jrow_ne (by decide)]; exact h1) (by rw [jrow_ne (by decide)]; exact h2)]
  simp only [zk_l, zk_r, Option.toList_some, Option.toList_none, List.cons_append, List.nil_append, zrokB, zrokB0, zrokB1, zrokJ0, zrokJ1, and_true, true_and, and_self, if_true, if_false, b2_0, b2_1, b2_not, ite_self]
  rw [sg_288_11, sp_178t]
  simp only [zk_l, zk_r, Option.toList_some, Option.toList_none, List.cons_append, List.nil_append, zrokB, zrokB0, zrokB1, zrokJ0, zrokJ1, and_true, true_and, and_self, if_true, if_false, b2_0, b2_1, b2_not, ite_self]
  rw [sg_288_15, if_pos (by decide), sp_221 (by omega) h0 i0, jrow_ne (by decide)]
  simp only [zk_l, zk_r, Option.toList_some, Option.toList_none, List.cons_append, List.nil_append, zrokB, zrokB0, zrokB1, zrokJ0, zrokJ1, and_true, true_and, and_self, if_true, if_false, b2_0, b2_1, b2_not, ite_self]
  rw [sg_288_28]
theorem sp_288n {a i : Int} (a1 : -2147483648 ≤ a) (a2 : a < 2147483648) (h : ¬ (0 ≤ a ∧ a < J 355 6)) (h1 : 0 ≤ J 355 6) (h2 : J 355 6 ≤ 40) : wz W 288 0 [.ref 353, .int (jI a), .int (jI i)] [] (jm J) Q = Q (oI 0) (jm (jrow J 353 (sset (J 353) 0 1))) := by
  rw [sg_288_0]
  simp (disch := first | assumption | omega) only [jI_cl, jm_n, jz_n, i_lit, i_c0, i_c1, Int.toNat_of_nonneg, Int.toNat_natCast, jrow_same, jrow_ne, jrow_jrow, sset_eq, sset_ne]
  rw [sp_217n a1 a2 (by rw [jrow_ne (by decide)]; exact h) (by rw [jrow_ne (by decide)]; exact h1) (by rw [jrow_ne (by decide)]; exact h2)]
  simp only [zk_l, zk_r, Option.toList_some, Option.toList_none, List.cons_append, List.nil_append, zrokB, zrokB0, zrokB1, zrokJ0, zrokJ1, and_true, true_and, and_self, if_true, if_false, b2_0, b2_1, b2_not, ite_self]
  rw [sg_288_11, sp_178f]
  simp only [sset_ss, zk_l, zk_r, Option.toList_some, Option.toList_none, List.cons_append, List.nil_append, zrokB, zrokB0, zrokB1, zrokJ0, zrokJ1, and_true, true_and, and_self, if_true, if_false, b2_0, b2_1, b2_not, ite_self, jI_cl, jm_n, jz_n, i_lit, i_c0, i_c1, Int.toNat_of_nonneg, Int.toNat_natCast, jrow_same, jrow_ne, jrow_jrow, sset_eq, sset_ne]
  rw [sg_288_15, if_neg (by decide), sg_288_28]

theorem mt_ok {hm : List Nat} {v : Int} {f : Int → Int} {J' : zJ} : mtc hm (oI v) (jrow J' 353 (sset f 0 0) 353 0) v := Or.inl ⟨rfl, by rw [jrow_same, sset_eq rfl]⟩
theorem mt_er {hm : List Nat} {v : Int} {f : Int → Int} {J' : zJ} (i E : Nat) (h : hm[i]? = some E) {w : Int} (hw : w = i + 1) : mtc hm (oE E) (jrow J' 353 (sset f 0 w) 353 0) v := Or.inr ⟨i, E, h, rfl, by rw [jrow_same, sset_eq rfl, hw]⟩

theorem op_chamberCount (hk : k ≤ 30000) : Op W k [] 113 270 [.ref 0] [.ref 353] := by
  refine Op.q (fun J g t => ?_)
  obtain ⟨-, t2, t3, -⟩ := id t
  obtain ⟨a1', a2', a3', a4', a5', a6'⟩ := t3.1
  obtain ⟨b1, b2, b3, b4, b5, b6, b7, b8, b9, b10, b11, b12⟩ := t2.1
  obtain ⟨-, hS, hU, -⟩ := id g
  obtain ⟨d1, d2, d3, hpl, hq, hc, ho⟩ := id hS
  have hcx := GC_cx g t hk
  refine ⟨oI (J 355 4), J, J 355 4, jrow J 353 (sset (J 353) 0 0), fun Q => ?_, fun Q => ?_, kp_thr, mt_ok⟩
  · rw [sg_113_0]
    simp (disch := first | assumption | omega) only [hU.2.1, jI_cl, jm_n, jz_n, i_lit, i_c0, i_c1, Int.toNat_of_nonneg, Int.toNat_natCast, jrow_same, jrow_ne, jrow_jrow, sset_eq, sset_ne]
  · rw [sg_270_0]
    simp (disch := first | assumption | omega) only [zk_l, zk_r, Option.toList_some, Option.toList_none, List.cons_append, List.nil_append, zrokB, zrokB0, zrokB1, zrokJ0, zrokJ1, and_true, true_and, and_self, if_true, if_false, b2_0, b2_1, b2_not, ite_self, Int.add_zero, jI_nat, jI_add, jI_sub, jI_mul, jI_neg, jI_lt, jI_le, jI_eq, jI_lt0, jI_0lt, jI_le0, jI_0le, jI_eq0, jI_in, jI_dv, i_mod, jI_cl, jm_n, jz_n, i_lit, i_c0, i_c1, Int.toNat_of_nonneg, Int.toNat_natCast, jrow_same, jrow_ne, jrow_jrow, sset_eq, sset_ne]

theorem op_goodsCount (hk : k ≤ 30000) : Op W k [] 114 271 [.ref 0] [.ref 353] := by
  refine Op.q (fun J g t => ?_)
  obtain ⟨-, t2, t3, -⟩ := id t
  obtain ⟨a1', a2', a3', a4', a5', a6'⟩ := t3.1
  obtain ⟨b1, b2, b3, b4, b5, b6, b7, b8, b9, b10, b11, b12⟩ := t2.1
  obtain ⟨-, hS, hU, -⟩ := id g
  obtain ⟨d1, d2, d3, hpl, hq, hc, ho⟩ := id hS
  have hcx := GC_cx g t hk
  refine ⟨oI (J 355 5), J, J 355 5, jrow J 353 (sset (J 353) 0 0), fun Q => ?_, fun Q => ?_, kp_thr, mt_ok⟩
  · rw [sg_114_0]
    simp (disch := first | assumption | omega) only [hU.1, jI_cl, jm_n, jz_n, i_lit, i_c0, i_c1, Int.toNat_of_nonneg, Int.toNat_natCast, jrow_same, jrow_ne, jrow_jrow, sset_eq, sset_ne]
  · rw [sg_271_0]
    simp (disch := first | assumption | omega) only [zk_l, zk_r, Option.toList_some, Option.toList_none, List.cons_append, List.nil_append, zrokB, zrokB0, zrokB1, zrokJ0, zrokJ1, and_true, true_and, and_self, if_true, if_false, b2_0, b2_1, b2_not, ite_self, Int.add_zero, jI_nat, jI_add, jI_sub, jI_mul, jI_neg, jI_lt, jI_le, jI_eq, jI_lt0, jI_0lt, jI_le0, jI_0le, jI_eq0, jI_in, jI_dv, i_mod, jI_cl, jm_n, jz_n, i_lit, i_c0, i_c1, Int.toNat_of_nonneg, Int.toNat_natCast, jrow_same, jrow_ne, jrow_jrow, sset_eq, sset_ne]

theorem op_palletCount (hk : k ≤ 30000) : Op W k [] 115 272 [.ref 0] [.ref 353] := by
  refine Op.q (fun J g t => ?_)
  obtain ⟨-, t2, t3, -⟩ := id t
  obtain ⟨a1', a2', a3', a4', a5', a6'⟩ := t3.1
  obtain ⟨b1, b2, b3, b4, b5, b6, b7, b8, b9, b10, b11, b12⟩ := t2.1
  obtain ⟨-, hS, hU, -⟩ := id g
  obtain ⟨d1, d2, d3, hpl, hq, hc, ho⟩ := id hS
  have hcx := GC_cx g t hk
  refine ⟨oI (J 355 6), J, J 355 6, jrow J 353 (sset (J 353) 0 0), fun Q => ?_, fun Q => ?_, kp_thr, mt_ok⟩
  · rw [sg_115_0]
    simp (disch := first | assumption | omega) only [d2, jI_cl, jm_n, jz_n, i_lit, i_c0, i_c1, Int.toNat_of_nonneg, Int.toNat_natCast, jrow_same, jrow_ne, jrow_jrow, sset_eq, sset_ne]
  · rw [sg_272_0]
    simp (disch := first | assumption | omega) only [zk_l, zk_r, Option.toList_some, Option.toList_none, List.cons_append, List.nil_append, zrokB, zrokB0, zrokB1, zrokJ0, zrokJ1, and_true, true_and, and_self, if_true, if_false, b2_0, b2_1, b2_not, ite_self, Int.add_zero, jI_nat, jI_add, jI_sub, jI_mul, jI_neg, jI_lt, jI_le, jI_eq, jI_lt0, jI_0lt, jI_le0, jI_0le, jI_eq0, jI_in, jI_dv, i_mod, jI_cl, jm_n, jz_n, i_lit, i_c0, i_c1, Int.toNat_of_nonneg, Int.toNat_natCast, jrow_same, jrow_ne, jrow_jrow, sset_eq, sset_ne]

theorem op_orderCount (hk : k ≤ 30000) : Op W k [] 116 273 [.ref 0] [.ref 353] := by
  refine Op.q (fun J g t => ?_)
  obtain ⟨-, t2, t3, -⟩ := id t
  obtain ⟨a1', a2', a3', a4', a5', a6'⟩ := t3.1
  obtain ⟨b1, b2, b3, b4, b5, b6, b7, b8, b9, b10, b11, b12⟩ := t2.1
  obtain ⟨-, hS, hU, -⟩ := id g
  obtain ⟨d1, d2, d3, hpl, hq, hc, ho⟩ := id hS
  have hcx := GC_cx g t hk
  refine ⟨oI (J 355 7), J, J 355 7, jrow J 353 (sset (J 353) 0 0), fun Q => ?_, fun Q => ?_, kp_thr, mt_ok⟩
  · rw [sg_116_0]
    simp (disch := first | assumption | omega) only [hU.2.2.1, jI_cl, jm_n, jz_n, i_lit, i_c0, i_c1, Int.toNat_of_nonneg, Int.toNat_natCast, jrow_same, jrow_ne, jrow_jrow, sset_eq, sset_ne]
  · rw [sg_273_0]
    simp (disch := first | assumption | omega) only [zk_l, zk_r, Option.toList_some, Option.toList_none, List.cons_append, List.nil_append, zrokB, zrokB0, zrokB1, zrokJ0, zrokJ1, and_true, true_and, and_self, if_true, if_false, b2_0, b2_1, b2_not, ite_self, Int.add_zero, jI_nat, jI_add, jI_sub, jI_mul, jI_neg, jI_lt, jI_le, jI_eq, jI_lt0, jI_0lt, jI_le0, jI_0le, jI_eq0, jI_in, jI_dv, i_mod, jI_cl, jm_n, jz_n, i_lit, i_c0, i_c1, Int.toNat_of_nonneg, Int.toNat_natCast, jrow_same, jrow_ne, jrow_jrow, sset_eq, sset_ne]

theorem op_currentDay (hk : k ≤ 30000) : Op W k [] 117 274 [.ref 0] [.ref 353] := by
  refine Op.q (fun J g t => ?_)
  obtain ⟨-, t2, t3, -⟩ := id t
  obtain ⟨a1', a2', a3', a4', a5', a6'⟩ := t3.1
  obtain ⟨b1, b2, b3, b4, b5, b6, b7, b8, b9, b10, b11, b12⟩ := t2.1
  obtain ⟨-, hS, hU, -⟩ := id g
  obtain ⟨d1, d2, d3, hpl, hq, hc, ho⟩ := id hS
  have hcx := GC_cx g t hk
  refine ⟨oI (J 355 0), J, J 355 0, jrow J 353 (sset (J 353) 0 0), fun Q => ?_, fun Q => ?_, kp_thr, mt_ok⟩
  · rw [sg_117_0]
    simp (disch := first | assumption | omega) only [d1, jI_cl, jm_n, jz_n, i_lit, i_c0, i_c1, Int.toNat_of_nonneg, Int.toNat_natCast, jrow_same, jrow_ne, jrow_jrow, sset_eq, sset_ne]
  · rw [sg_274_0]
    simp (disch := first | assumption | omega) only [zk_l, zk_r, Option.toList_some, Option.toList_none, List.cons_append, List.nil_append, zrokB, zrokB0, zrokB1, zrokJ0, zrokJ1, and_true, true_and, and_self, if_true, if_false, b2_0, b2_1, b2_not, ite_self, Int.add_zero, jI_nat, jI_add, jI_sub, jI_mul, jI_neg, jI_lt, jI_le, jI_eq, jI_lt0, jI_0lt, jI_le0, jI_0le, jI_eq0, jI_in, jI_dv, i_mod, jI_cl, jm_n, jz_n, i_lit, i_c0, i_c1, Int.toNat_of_nonneg, Int.toNat_natCast, jrow_same, jrow_ne, jrow_jrow, sset_eq, sset_ne]

theorem op_waitingCount (hk : k ≤ 30000) : Op W k [] 118 275 [.ref 0] [.ref 353] := by
  refine Op.q (fun J g t => ?_)
  obtain ⟨-, t2, t3, -⟩ := id t
  obtain ⟨a1', a2', a3', a4', a5', a6'⟩ := t3.1
  obtain ⟨b1, b2, b3, b4, b5, b6, b7, b8, b9, b10, b11, b12⟩ := t2.1
  obtain ⟨-, hS, hU, -⟩ := id g
  obtain ⟨d1, d2, d3, hpl, hq, hc, ho⟩ := id hS
  have hcx := GC_cx g t hk
  refine ⟨oI (J 355 8), J, J 355 8, jrow J 353 (sset (J 353) 0 0), fun Q => ?_, fun Q => ?_, kp_thr, mt_ok⟩
  · rw [sg_118_0]
    simp (disch := first | assumption | omega) only [d3, jI_cl, jm_n, jz_n, i_lit, i_c0, i_c1, Int.toNat_of_nonneg, Int.toNat_natCast, jrow_same, jrow_ne, jrow_jrow, sset_eq, sset_ne]
  · rw [sg_275_0]
    simp (disch := first | assumption | omega) only [zk_l, zk_r, Option.toList_some, Option.toList_none, List.cons_append, List.nil_append, zrokB, zrokB0, zrokB1, zrokJ0, zrokJ1, and_true, true_and, and_self, if_true, if_false, b2_0, b2_1, b2_not, ite_self, Int.add_zero, jI_nat, jI_add, jI_sub, jI_mul, jI_neg, jI_lt, jI_le, jI_eq, jI_lt0, jI_0lt, jI_le0, jI_0le, jI_eq0, jI_in, jI_dv, i_mod, jI_cl, jm_n, jz_n, i_lit, i_c0, i_c1, Int.toNat_of_nonneg, Int.toNat_natCast, jrow_same, jrow_ne, jrow_jrow, sset_eq, sset_ne]

theorem op_goodsOf (hk : k ≤ 30000) {a : Int} (a1 : -2147483648 ≤ a) (a2 : a < 2147483648) : Op W k [0] 129 289 [.ref 0, .int (jI a)] [.ref 353, .int (jI a)] := by
  refine Op.q (fun J g t => ?_)
  obtain ⟨-, t2, t3, -⟩ := id t
  obtain ⟨a1', a2', a3', a4', a5', a6'⟩ := t3.1
  obtain ⟨b1, b2, b3, b4, b5, b6, b7, b8, b9, b10, b11, b12⟩ := t2.1
  obtain ⟨-, hS, hU, -⟩ := id g
  obtain ⟨d1, d2, d3, hpl, hq, hc, ho⟩ := id hS
  have hcx := GC_cx g t hk
  by_cases v : 0 ≤ a ∧ a < J 355 6
  · refine ⟨oI (J 355 (72 + 7 * a)), J, J 355 (72 + 7 * a), jrow J 353 (sset (J 353) 0 0), fun Q => ?_, fun Q => ?_, kp_thr, mt_ok⟩
    · rw [sg_129_0, sp_163v v.1 (by omega) (by omega)]
      simp only [zk_l, zk_r, Option.toList_some, Option.toList_none, List.cons_append, List.nil_append, zrokB, zrokB0, zrokB1, zrokJ0, zrokJ1, and_true, true_and, and_self, if_true, if_false, b2_0, b2_1, b2_not, ite_self]
      rw [sg_129_5, sp_45 (zStk_r3 zStk_49) v.1 (by omega) (by decide), (hpl a v.1 v.2).1]
      simp only [zk_l, zk_r, Option.toList_some, Option.toList_none, List.cons_append, List.nil_append, zrokB, zrokB0, zrokB1, zrokJ0, zrokJ1, and_true, true_and, and_self, if_true, if_false, b2_0, b2_1, b2_not, ite_self]
      rw [sg_129_16]
    · rw [sg_289_0, sp_288v v.1 v.2 a4' (by omega) (by omega)]
      simp only [Int.add_zero, zk_l, zk_r, Option.toList_some, Option.toList_none, List.cons_append, List.nil_append, zrokB, zrokB0, zrokB1, zrokJ0, zrokJ1, and_true, true_and, and_self, if_true, if_false, b2_0, b2_1, b2_not, ite_self]
      rw [sg_289_6]
  · refine ⟨oE 0, J, 0, jrow J 353 (sset (J 353) 0 1), fun Q => ?_, fun Q => ?_, kp_thr, mt_er 0 0 rfl rfl⟩
    · rw [sg_129_0, sp_163n a1 a2 (by rw [d2]; exact v) (by omega) (by omega)]
      simp only [zk_l, zk_r, Option.toList_some, Option.toList_none, List.cons_append, List.nil_append, zrokB, zrokB0, zrokB1, zrokJ0, zrokJ1, and_true, true_and, and_self, if_true, if_false, b2_0, b2_1, b2_not, ite_self]
    · rw [sg_289_0, sp_288n a1 a2 v a3' a4']
      simp only [zk_l, zk_r, Option.toList_some, Option.toList_none, List.cons_append, List.nil_append, zrokB, zrokB0, zrokB1, zrokJ0, zrokJ1, and_true, true_and, and_self, if_true, if_false, b2_0, b2_1, b2_not, ite_self]
      rw [sg_289_6]

theorem op_stateOf (hk : k ≤ 30000) {a : Int} (a1 : -2147483648 ≤ a) (a2 : a < 2147483648) : Op W k [0] 130 290 [.ref 0, .int (jI a)] [.ref 353, .int (jI a)] := by
  refine Op.q (fun J g t => ?_)
  obtain ⟨-, t2, t3, -⟩ := id t
  obtain ⟨a1', a2', a3', a4', a5', a6'⟩ := t3.1
  obtain ⟨b1, b2, b3, b4, b5, b6, b7, b8, b9, b10, b11, b12⟩ := t2.1
  obtain ⟨-, hS, hU, -⟩ := id g
  obtain ⟨d1, d2, d3, hpl, hq, hc, ho⟩ := id hS
  have hcx := GC_cx g t hk
  by_cases v : 0 ≤ a ∧ a < J 355 6
  · refine ⟨oI (J 355 (72 + 7 * a + 2)), J, J 355 (72 + 7 * a + 2), jrow J 353 (sset (J 353) 0 0), fun Q => ?_, fun Q => ?_, kp_thr, mt_ok⟩
    · rw [sg_130_0, sp_163v v.1 (by omega) (by omega)]
      simp only [zk_l, zk_r, Option.toList_some, Option.toList_none, List.cons_append, List.nil_append, zrokB, zrokB0, zrokB1, zrokJ0, zrokJ1, and_true, true_and, and_self, if_true, if_false, b2_0, b2_1, b2_not, ite_self]
      rw [sg_130_5, sp_45 (zStk_r4 zStk_49) v.1 (by omega) (by decide), (hpl a v.1 v.2).2.1]
      simp only [zk_l, zk_r, Option.toList_some, Option.toList_none, List.cons_append, List.nil_append, zrokB, zrokB0, zrokB1, zrokJ0, zrokJ1, and_true, true_and, and_self, if_true, if_false, b2_0, b2_1, b2_not, ite_self]
      rw [sg_130_16]
    · rw [sg_290_0, sp_288v v.1 v.2 a4' (by omega) (by omega)]
      simp only [Int.add_zero, zk_l, zk_r, Option.toList_some, Option.toList_none, List.cons_append, List.nil_append, zrokB, zrokB0, zrokB1, zrokJ0, zrokJ1, and_true, true_and, and_self, if_true, if_false, b2_0, b2_1, b2_not, ite_self]
      rw [sg_290_6]
  · refine ⟨oE 0, J, 0, jrow J 353 (sset (J 353) 0 1), fun Q => ?_, fun Q => ?_, kp_thr, mt_er 0 0 rfl rfl⟩
    · rw [sg_130_0, sp_163n a1 a2 (by rw [d2]; exact v) (by omega) (by omega)]
      simp only [zk_l, zk_r, Option.toList_some, Option.toList_none, List.cons_append, List.nil_append, zrokB, zrokB0, zrokB1, zrokJ0, zrokJ1, and_true, true_and, and_self, if_true, if_false, b2_0, b2_1, b2_not, ite_self]
    · rw [sg_290_0, sp_288n a1 a2 v a3' a4']
      simp only [zk_l, zk_r, Option.toList_some, Option.toList_none, List.cons_append, List.nil_append, zrokB, zrokB0, zrokB1, zrokJ0, zrokJ1, and_true, true_and, and_self, if_true, if_false, b2_0, b2_1, b2_not, ite_self]
      rw [sg_290_6]

theorem op_arrivalDay (hk : k ≤ 30000) {a : Int} (a1 : -2147483648 ≤ a) (a2 : a < 2147483648) : Op W k [0] 133 293 [.ref 0, .int (jI a)] [.ref 353, .int (jI a)] := by
  refine Op.q (fun J g t => ?_)
  obtain ⟨-, t2, t3, -⟩ := id t
  obtain ⟨a1', a2', a3', a4', a5', a6'⟩ := t3.1
  obtain ⟨b1, b2, b3, b4, b5, b6, b7, b8, b9, b10, b11, b12⟩ := t2.1
  obtain ⟨-, hS, hU, -⟩ := id g
  obtain ⟨d1, d2, d3, hpl, hq, hc, ho⟩ := id hS
  have hcx := GC_cx g t hk
  by_cases v : 0 ≤ a ∧ a < J 355 6
  · refine ⟨oI (J 355 (72 + 7 * a + 1)), J, J 355 (72 + 7 * a + 1), jrow J 353 (sset (J 353) 0 0), fun Q => ?_, fun Q => ?_, kp_thr, mt_ok⟩
    · rw [sg_133_0, sp_163v v.1 (by omega) (by omega)]
      simp only [zk_l, zk_r, Option.toList_some, Option.toList_none, List.cons_append, List.nil_append, zrokB, zrokB0, zrokB1, zrokJ0, zrokJ1, and_true, true_and, and_self, if_true, if_false, b2_0, b2_1, b2_not, ite_self]
      rw [sg_133_5, sp_45 (zStk_r7 zStk_49) v.1 (by omega) (by decide), (hpl a v.1 v.2).2.2.2.2.1]
      simp only [zk_l, zk_r, Option.toList_some, Option.toList_none, List.cons_append, List.nil_append, zrokB, zrokB0, zrokB1, zrokJ0, zrokJ1, and_true, true_and, and_self, if_true, if_false, b2_0, b2_1, b2_not, ite_self]
      rw [sg_133_16]
    · rw [sg_293_0, sp_288v v.1 v.2 a4' (by omega) (by omega)]
      simp only [Int.add_zero, zk_l, zk_r, Option.toList_some, Option.toList_none, List.cons_append, List.nil_append, zrokB, zrokB0, zrokB1, zrokJ0, zrokJ1, and_true, true_and, and_self, if_true, if_false, b2_0, b2_1, b2_not, ite_self]
      rw [sg_293_6]
  · refine ⟨oE 0, J, 0, jrow J 353 (sset (J 353) 0 1), fun Q => ?_, fun Q => ?_, kp_thr, mt_er 0 0 rfl rfl⟩
    · rw [sg_133_0, sp_163n a1 a2 (by rw [d2]; exact v) (by omega) (by omega)]
      simp only [zk_l, zk_r, Option.toList_some, Option.toList_none, List.cons_append, List.nil_append, zrokB, zrokB0, zrokB1, zrokJ0, zrokJ1, and_true, true_and, and_self, if_true, if_false, b2_0, b2_1, b2_not, ite_self]
    · rw [sg_293_0, sp_288n a1 a2 v a3' a4']
      simp only [zk_l, zk_r, Option.toList_some, Option.toList_none, List.cons_append, List.nil_append, zrokB, zrokB0, zrokB1, zrokJ0, zrokJ1, and_true, true_and, and_self, if_true, if_false, b2_0, b2_1, b2_not, ite_self]
      rw [sg_293_6]

theorem op_heat (hk : k ≤ 30000) {a : Int} (a1 : -2147483648 ≤ a) (a2 : a < 2147483648) : Op W k [0] 134 294 [.ref 0, .int (jI a)] [.ref 353, .int (jI a)] := by
  refine Op.q (fun J g t => ?_)
  obtain ⟨-, t2, t3, -⟩ := id t
  obtain ⟨a1', a2', a3', a4', a5', a6'⟩ := t3.1
  obtain ⟨b1, b2, b3, b4, b5, b6, b7, b8, b9, b10, b11, b12⟩ := t2.1
  obtain ⟨-, hS, hU, -⟩ := id g
  obtain ⟨d1, d2, d3, hpl, hq, hc, ho⟩ := id hS
  have hcx := GC_cx g t hk
  by_cases v : 0 ≤ a ∧ a < J 355 6
  · refine ⟨oI (J 355 (72 + 7 * a + 4)), J, J 355 (72 + 7 * a + 4), jrow J 353 (sset (J 353) 0 0), fun Q => ?_, fun Q => ?_, kp_thr, mt_ok⟩
    · rw [sg_134_0, sp_163v v.1 (by omega) (by omega)]
      simp only [zk_l, zk_r, Option.toList_some, Option.toList_none, List.cons_append, List.nil_append, zrokB, zrokB0, zrokB1, zrokJ0, zrokJ1, and_true, true_and, and_self, if_true, if_false, b2_0, b2_1, b2_not, ite_self]
      rw [sg_134_5, sp_45 (zStk_r9 zStk_49) v.1 (by omega) (by decide), (hpl a v.1 v.2).2.2.2.2.2.2.1]
      simp only [zk_l, zk_r, Option.toList_some, Option.toList_none, List.cons_append, List.nil_append, zrokB, zrokB0, zrokB1, zrokJ0, zrokJ1, and_true, true_and, and_self, if_true, if_false, b2_0, b2_1, b2_not, ite_self]
      rw [sg_134_16]
    · rw [sg_294_0, sp_288v v.1 v.2 a4' (by omega) (by omega)]
      simp only [Int.add_zero, zk_l, zk_r, Option.toList_some, Option.toList_none, List.cons_append, List.nil_append, zrokB, zrokB0, zrokB1, zrokJ0, zrokJ1, and_true, true_and, and_self, if_true, if_false, b2_0, b2_1, b2_not, ite_self]
      rw [sg_294_6]
  · refine ⟨oE 0, J, 0, jrow J 353 (sset (J 353) 0 1), fun Q => ?_, fun Q => ?_, kp_thr, mt_er 0 0 rfl rfl⟩
    · rw [sg_134_0, sp_163n a1 a2 (by rw [d2]; exact v) (by omega) (by omega)]
      simp only [zk_l, zk_r, Option.toList_some, Option.toList_none, List.cons_append, List.nil_append, zrokB, zrokB0, zrokB1, zrokJ0, zrokJ1, and_true, true_and, and_self, if_true, if_false, b2_0, b2_1, b2_not, ite_self]
    · rw [sg_294_0, sp_288n a1 a2 v a3' a4']
      simp only [zk_l, zk_r, Option.toList_some, Option.toList_none, List.cons_append, List.nil_append, zrokB, zrokB0, zrokB1, zrokJ0, zrokJ1, and_true, true_and, and_self, if_true, if_false, b2_0, b2_1, b2_not, ite_self]
      rw [sg_294_6]

theorem op_taint (hk : k ≤ 30000) {a : Int} (a1 : -2147483648 ≤ a) (a2 : a < 2147483648) : Op W k [0] 135 295 [.ref 0, .int (jI a)] [.ref 353, .int (jI a)] := by
  refine Op.q (fun J g t => ?_)
  obtain ⟨-, t2, t3, -⟩ := id t
  obtain ⟨a1', a2', a3', a4', a5', a6'⟩ := t3.1
  obtain ⟨b1, b2, b3, b4, b5, b6, b7, b8, b9, b10, b11, b12⟩ := t2.1
  obtain ⟨-, hS, hU, -⟩ := id g
  obtain ⟨d1, d2, d3, hpl, hq, hc, ho⟩ := id hS
  have hcx := GC_cx g t hk
  by_cases v : 0 ≤ a ∧ a < J 355 6
  · refine ⟨oI (J 355 (72 + 7 * a + 5)), J, J 355 (72 + 7 * a + 5), jrow J 353 (sset (J 353) 0 0), fun Q => ?_, fun Q => ?_, kp_thr, mt_ok⟩
    · rw [sg_135_0, sp_163v v.1 (by omega) (by omega)]
      simp only [zk_l, zk_r, Option.toList_some, Option.toList_none, List.cons_append, List.nil_append, zrokB, zrokB0, zrokB1, zrokJ0, zrokJ1, and_true, true_and, and_self, if_true, if_false, b2_0, b2_1, b2_not, ite_self]
      rw [sg_135_5, sp_45 (zStk_r10 zStk_49) v.1 (by omega) (by decide), (hpl a v.1 v.2).2.2.2.2.2.2.2]
      simp only [zk_l, zk_r, Option.toList_some, Option.toList_none, List.cons_append, List.nil_append, zrokB, zrokB0, zrokB1, zrokJ0, zrokJ1, and_true, true_and, and_self, if_true, if_false, b2_0, b2_1, b2_not, ite_self]
      rw [sg_135_16]
    · rw [sg_295_0, sp_288v v.1 v.2 a4' (by omega) (by omega)]
      simp only [Int.add_zero, zk_l, zk_r, Option.toList_some, Option.toList_none, List.cons_append, List.nil_append, zrokB, zrokB0, zrokB1, zrokJ0, zrokJ1, and_true, true_and, and_self, if_true, if_false, b2_0, b2_1, b2_not, ite_self]
      rw [sg_295_6]
  · refine ⟨oE 0, J, 0, jrow J 353 (sset (J 353) 0 1), fun Q => ?_, fun Q => ?_, kp_thr, mt_er 0 0 rfl rfl⟩
    · rw [sg_135_0, sp_163n a1 a2 (by rw [d2]; exact v) (by omega) (by omega)]
      simp only [zk_l, zk_r, Option.toList_some, Option.toList_none, List.cons_append, List.nil_append, zrokB, zrokB0, zrokB1, zrokJ0, zrokJ1, and_true, true_and, and_self, if_true, if_false, b2_0, b2_1, b2_not, ite_self]
    · rw [sg_295_0, sp_288n a1 a2 v a3' a4']
      simp only [zk_l, zk_r, Option.toList_some, Option.toList_none, List.cons_append, List.nil_append, zrokB, zrokB0, zrokB1, zrokJ0, zrokJ1, and_true, true_and, and_self, if_true, if_false, b2_0, b2_1, b2_not, ite_self]
      rw [sg_295_6]

theorem op_lowestTemperature (hk : k ≤ 30000) {a : Int} (a1 : -2147483648 ≤ a) (a2 : a < 2147483648) : Op W k [0] 123 281 [.ref 0, .int (jI a)] [.ref 353, .int (jI a)] := by
  refine Op.q (fun J g t => ?_)
  obtain ⟨-, t2, t3, -⟩ := id t
  obtain ⟨a1', a2', a3', a4', a5', a6'⟩ := t3.1
  obtain ⟨b1, b2, b3, b4, b5, b6, b7, b8, b9, b10, b11, b12⟩ := t2.1
  obtain ⟨-, hS, hU, -⟩ := id g
  obtain ⟨d1, d2, d3, hpl, hq, hc, ho⟩ := id hS
  have hcx := GC_cx g t hk
  have hu0 := hU.1
  by_cases v : 0 ≤ a ∧ a < J 355 5
  · obtain ⟨g0, g1, g2, g3, g4, g5, g6, g7, g8⟩ := RU_g hU t2 v.1 v.2
    refine ⟨oI (J 355 (36 + 6 * a + 1)), J, J 355 (36 + 6 * a + 1), jrow J 353 (sset (J 353) 0 0), fun Q => ?_, fun Q => ?_, kp_thr, mt_ok⟩
    · rw [sg_123_0, sp_162v v.1 (by omega) (by omega)]
      simp only [zk_l, zk_r, Option.toList_some, Option.toList_none, List.cons_append, List.nil_append, zrokB, zrokB0, zrokB1, zrokJ0, zrokJ1, and_true, true_and, and_self, if_true, if_false, b2_0, b2_1, b2_not, ite_self]
      rw [sg_123_5, sp_52 zStp_5 v.1 g0]
      simp only [zk_l, zk_r, Option.toList_some, Option.toList_none, List.cons_append, List.nil_append, zrokB, zrokB0, zrokB1, zrokJ0, zrokJ1, and_true, true_and, and_self, if_true, if_false, b2_0, b2_1, b2_not, ite_self]
      rw [sg_123_13 (hqt0 := g1), jm_l, g4]
    · rw [sg_281_0, sp_280v v.1 v.2 b10 (by omega) (by omega)]
      simp only [zk_l, zk_r, Option.toList_some, Option.toList_none, List.cons_append, List.nil_append, zrokB, zrokB0, zrokB1, zrokJ0, zrokJ1, and_true, true_and, and_self, if_true, if_false, b2_0, b2_1, b2_not, ite_self]
      rw [sg_281_6]
  · refine ⟨oE 0, J, 0, jrow J 353 (sset (J 353) 0 1), fun Q => ?_, fun Q => ?_, kp_thr, mt_er 0 0 rfl rfl⟩
    · rw [sg_123_0, sp_162n a1 a2 (by rw [hu0]; exact v) (by omega) (by omega)]
      simp only [zk_l, zk_r, Option.toList_some, Option.toList_none, List.cons_append, List.nil_append, zrokB, zrokB0, zrokB1, zrokJ0, zrokJ1, and_true, true_and, and_self, if_true, if_false, b2_0, b2_1, b2_not, ite_self]
    · rw [sg_281_0, sp_280n a1 a2 v b9 b10]
      simp only [zk_l, zk_r, Option.toList_some, Option.toList_none, List.cons_append, List.nil_append, zrokB, zrokB0, zrokB1, zrokJ0, zrokJ1, and_true, true_and, and_self, if_true, if_false, b2_0, b2_1, b2_not, ite_self]
      rw [sg_281_6]

theorem op_highestTemperature (hk : k ≤ 30000) {a : Int} (a1 : -2147483648 ≤ a) (a2 : a < 2147483648) : Op W k [0] 124 282 [.ref 0, .int (jI a)] [.ref 353, .int (jI a)] := by
  refine Op.q (fun J g t => ?_)
  obtain ⟨-, t2, t3, -⟩ := id t
  obtain ⟨a1', a2', a3', a4', a5', a6'⟩ := t3.1
  obtain ⟨b1, b2, b3, b4, b5, b6, b7, b8, b9, b10, b11, b12⟩ := t2.1
  obtain ⟨-, hS, hU, -⟩ := id g
  obtain ⟨d1, d2, d3, hpl, hq, hc, ho⟩ := id hS
  have hcx := GC_cx g t hk
  have hu0 := hU.1
  by_cases v : 0 ≤ a ∧ a < J 355 5
  · obtain ⟨g0, g1, g2, g3, g4, g5, g6, g7, g8⟩ := RU_g hU t2 v.1 v.2
    refine ⟨oI (J 355 (36 + 6 * a + 2)), J, J 355 (36 + 6 * a + 2), jrow J 353 (sset (J 353) 0 0), fun Q => ?_, fun Q => ?_, kp_thr, mt_ok⟩
    · rw [sg_124_0, sp_162v v.1 (by omega) (by omega)]
      simp only [zk_l, zk_r, Option.toList_some, Option.toList_none, List.cons_append, List.nil_append, zrokB, zrokB0, zrokB1, zrokJ0, zrokJ1, and_true, true_and, and_self, if_true, if_false, b2_0, b2_1, b2_not, ite_self]
      rw [sg_124_5, sp_52 zStp_5 v.1 g0]
      simp only [zk_l, zk_r, Option.toList_some, Option.toList_none, List.cons_append, List.nil_append, zrokB, zrokB0, zrokB1, zrokJ0, zrokJ1, and_true, true_and, and_self, if_true, if_false, b2_0, b2_1, b2_not, ite_self]
      rw [sg_124_13 (hqt0 := g1), jm_l, g5]
    · rw [sg_282_0, sp_280v v.1 v.2 b10 (by omega) (by omega)]
      simp only [zk_l, zk_r, Option.toList_some, Option.toList_none, List.cons_append, List.nil_append, zrokB, zrokB0, zrokB1, zrokJ0, zrokJ1, and_true, true_and, and_self, if_true, if_false, b2_0, b2_1, b2_not, ite_self]
      rw [sg_282_6]
  · refine ⟨oE 0, J, 0, jrow J 353 (sset (J 353) 0 1), fun Q => ?_, fun Q => ?_, kp_thr, mt_er 0 0 rfl rfl⟩
    · rw [sg_124_0, sp_162n a1 a2 (by rw [hu0]; exact v) (by omega) (by omega)]
      simp only [zk_l, zk_r, Option.toList_some, Option.toList_none, List.cons_append, List.nil_append, zrokB, zrokB0, zrokB1, zrokJ0, zrokJ1, and_true, true_and, and_self, if_true, if_false, b2_0, b2_1, b2_not, ite_self]
    · rw [sg_282_0, sp_280n a1 a2 v b9 b10]
      simp only [zk_l, zk_r, Option.toList_some, Option.toList_none, List.cons_append, List.nil_append, zrokB, zrokB0, zrokB1, zrokJ0, zrokJ1, and_true, true_and, and_self, if_true, if_false, b2_0, b2_1, b2_not, ite_self]
      rw [sg_282_6]

theorem op_shelfLife (hk : k ≤ 30000) {a : Int} (a1 : -2147483648 ≤ a) (a2 : a < 2147483648) : Op W k [0] 125 283 [.ref 0, .int (jI a)] [.ref 353, .int (jI a)] := by
  refine Op.q (fun J g t => ?_)
  obtain ⟨-, t2, t3, -⟩ := id t
  obtain ⟨a1', a2', a3', a4', a5', a6'⟩ := t3.1
  obtain ⟨b1, b2, b3, b4, b5, b6, b7, b8, b9, b10, b11, b12⟩ := t2.1
  obtain ⟨-, hS, hU, -⟩ := id g
  obtain ⟨d1, d2, d3, hpl, hq, hc, ho⟩ := id hS
  have hcx := GC_cx g t hk
  have hu0 := hU.1
  by_cases v : 0 ≤ a ∧ a < J 355 5
  · obtain ⟨g0, g1, g2, g3, g4, g5, g6, g7, g8⟩ := RU_g hU t2 v.1 v.2
    refine ⟨oI (J 355 (36 + 6 * a + 3)), J, J 355 (36 + 6 * a + 3), jrow J 353 (sset (J 353) 0 0), fun Q => ?_, fun Q => ?_, kp_thr, mt_ok⟩
    · rw [sg_125_0, sp_162v v.1 (by omega) (by omega)]
      simp only [zk_l, zk_r, Option.toList_some, Option.toList_none, List.cons_append, List.nil_append, zrokB, zrokB0, zrokB1, zrokJ0, zrokJ1, and_true, true_and, and_self, if_true, if_false, b2_0, b2_1, b2_not, ite_self]
      rw [sg_125_5, sp_52 zStp_5 v.1 g0]
      simp only [zk_l, zk_r, Option.toList_some, Option.toList_none, List.cons_append, List.nil_append, zrokB, zrokB0, zrokB1, zrokJ0, zrokJ1, and_true, true_and, and_self, if_true, if_false, b2_0, b2_1, b2_not, ite_self]
      rw [sg_125_13 (hqt0 := g1), jm_l, g6]
    · rw [sg_283_0, sp_280v v.1 v.2 b10 (by omega) (by omega)]
      simp only [zk_l, zk_r, Option.toList_some, Option.toList_none, List.cons_append, List.nil_append, zrokB, zrokB0, zrokB1, zrokJ0, zrokJ1, and_true, true_and, and_self, if_true, if_false, b2_0, b2_1, b2_not, ite_self]
      rw [sg_283_6]
  · refine ⟨oE 0, J, 0, jrow J 353 (sset (J 353) 0 1), fun Q => ?_, fun Q => ?_, kp_thr, mt_er 0 0 rfl rfl⟩
    · rw [sg_125_0, sp_162n a1 a2 (by rw [hu0]; exact v) (by omega) (by omega)]
      simp only [zk_l, zk_r, Option.toList_some, Option.toList_none, List.cons_append, List.nil_append, zrokB, zrokB0, zrokB1, zrokJ0, zrokJ1, and_true, true_and, and_self, if_true, if_false, b2_0, b2_1, b2_not, ite_self]
    · rw [sg_283_0, sp_280n a1 a2 v b9 b10]
      simp only [zk_l, zk_r, Option.toList_some, Option.toList_none, List.cons_append, List.nil_append, zrokB, zrokB0, zrokB1, zrokJ0, zrokJ1, and_true, true_and, and_self, if_true, if_false, b2_0, b2_1, b2_not, ite_self]
      rw [sg_283_6]

theorem op_setpoint (hk : k ≤ 30000) {a : Int} (a1 : -2147483648 ≤ a) (a2 : a < 2147483648) : Op W k [0] 140 297 [.ref 0, .int (jI a)] [.ref 353, .int (jI a)] := by
  refine Op.q (fun J g t => ?_)
  obtain ⟨-, t2, t3, -⟩ := id t
  obtain ⟨a1', a2', a3', a4', a5', a6'⟩ := t3.1
  obtain ⟨b1, b2, b3, b4, b5, b6, b7, b8, b9, b10, b11, b12⟩ := t2.1
  obtain ⟨-, hS, hU, -⟩ := id g
  obtain ⟨d1, d2, d3, hpl, hq, hc, ho⟩ := id hS
  have hcx := GC_cx g t hk
  have hu3 := hU.2.1
  by_cases v : 0 ≤ a ∧ a < J 355 4
  · refine ⟨oI (J 355 (12 + 8 * a + 3)), J, J 355 (12 + 8 * a + 3), jrow J 353 (sset (J 353) 0 0), fun Q => ?_, fun Q => ?_, kp_thr, mt_ok⟩
    · rw [sg_140_0, sp_164v v.1 (by omega) (by omega)]
      simp only [zk_l, zk_r, Option.toList_some, Option.toList_none, List.cons_append, List.nil_append, zrokB, zrokB0, zrokB1, zrokJ0, zrokJ1, and_true, true_and, and_self, if_true, if_false, b2_0, b2_1, b2_not, ite_self]
      rw [sg_140_5, sp_45 (zStk_r13 zStk_49) v.1 (by omega) (by decide), (hc a v.1 v.2).1]
      simp only [zk_l, zk_r, Option.toList_some, Option.toList_none, List.cons_append, List.nil_append, zrokB, zrokB0, zrokB1, zrokJ0, zrokJ1, and_true, true_and, and_self, if_true, if_false, b2_0, b2_1, b2_not, ite_self]
      rw [sg_140_16]
    · rw [sg_297_0]
      simp (disch := first | assumption | omega) only [jI_cl, jm_n, jz_n, i_lit, i_c0, i_c1, Int.toNat_of_nonneg, Int.toNat_natCast, jrow_same, jrow_ne, jrow_jrow, sset_eq, sset_ne]
      rw [sp_215v v.1 (by rw [jrow_ne (by decide)]; exact v.2) (by rw [jrow_ne (by decide)]; exact b8)]
      simp only [zk_l, zk_r, Option.toList_some, Option.toList_none, List.cons_append, List.nil_append, zrokB, zrokB0, zrokB1, zrokJ0, zrokJ1, and_true, true_and, and_self, if_true, if_false, b2_0, b2_1, b2_not, ite_self]
      rw [sg_297_11, sp_178t]
      simp only [zk_l, zk_r, Option.toList_some, Option.toList_none, List.cons_append, List.nil_append, zrokB, zrokB0, zrokB1, zrokJ0, zrokJ1, and_true, true_and, and_self, if_true, if_false, b2_0, b2_1, b2_not, ite_self]
      rw [sg_297_15, if_pos (by decide), sp_219 (by omega) (by omega) v.1 (by omega), jrow_ne (by decide)]
      simp only [zk_l, zk_r, Option.toList_some, Option.toList_none, List.cons_append, List.nil_append, zrokB, zrokB0, zrokB1, zrokJ0, zrokJ1, and_true, true_and, and_self, if_true, if_false, b2_0, b2_1, b2_not, ite_self]
      rw [sg_297_28]
  · refine ⟨oE 0, J, 0, jrow J 353 (sset (J 353) 0 1), fun Q => ?_, fun Q => ?_, kp_thr, mt_er 0 0 rfl rfl⟩
    · rw [sg_140_0, sp_164n a1 a2 (by rw [hu3]; exact v) (by omega) (by omega)]
      simp only [zk_l, zk_r, Option.toList_some, Option.toList_none, List.cons_append, List.nil_append, zrokB, zrokB0, zrokB1, zrokJ0, zrokJ1, and_true, true_and, and_self, if_true, if_false, b2_0, b2_1, b2_not, ite_self]
    · rw [sg_297_0]
      simp (disch := first | assumption | omega) only [jI_cl, jm_n, jz_n, i_lit, i_c0, i_c1, Int.toNat_of_nonneg, Int.toNat_natCast, jrow_same, jrow_ne, jrow_jrow, sset_eq, sset_ne]
      rw [sp_215n a1 a2 (by rw [jrow_ne (by decide)]; exact v) (by rw [jrow_ne (by decide)]; exact b7) (by rw [jrow_ne (by decide)]; exact b8)]
      simp only [zk_l, zk_r, Option.toList_some, Option.toList_none, List.cons_append, List.nil_append, zrokB, zrokB0, zrokB1, zrokJ0, zrokJ1, and_true, true_and, and_self, if_true, if_false, b2_0, b2_1, b2_not, ite_self]
      rw [sg_297_11, sp_178f]
      simp only [sset_ss, zk_l, zk_r, Option.toList_some, Option.toList_none, List.cons_append, List.nil_append, zrokB, zrokB0, zrokB1, zrokJ0, zrokJ1, and_true, true_and, and_self, if_true, if_false, b2_0, b2_1, b2_not, ite_self, jI_cl, jm_n, jz_n, i_lit, i_c0, i_c1, Int.toNat_of_nonneg, Int.toNat_natCast, jrow_same, jrow_ne, jrow_jrow, sset_eq, sset_ne]
      rw [sg_297_15, if_neg (by decide), sg_297_28]

theorem op_openings (hk : k ≤ 30000) {a : Int} (a1 : -2147483648 ≤ a) (a2 : a < 2147483648) : Op W k [0] 143 300 [.ref 0, .int (jI a)] [.ref 353, .int (jI a)] := by
  refine Op.q (fun J g t => ?_)
  obtain ⟨-, t2, t3, -⟩ := id t
  obtain ⟨a1', a2', a3', a4', a5', a6'⟩ := t3.1
  obtain ⟨b1, b2, b3, b4, b5, b6, b7, b8, b9, b10, b11, b12⟩ := t2.1
  obtain ⟨-, hS, hU, -⟩ := id g
  obtain ⟨d1, d2, d3, hpl, hq, hc, ho⟩ := id hS
  have hcx := GC_cx g t hk
  have hu3 := hU.2.1
  by_cases v : 0 ≤ a ∧ a < J 355 4
  · refine ⟨oI (J 355 (12 + 8 * a + 5)), J, J 355 (12 + 8 * a + 5), jrow J 353 (sset (J 353) 0 0), fun Q => ?_, fun Q => ?_, kp_thr, mt_ok⟩
    · rw [sg_143_0, sp_164v v.1 (by omega) (by omega)]
      simp only [zk_l, zk_r, Option.toList_some, Option.toList_none, List.cons_append, List.nil_append, zrokB, zrokB0, zrokB1, zrokJ0, zrokJ1, and_true, true_and, and_self, if_true, if_false, b2_0, b2_1, b2_not, ite_self]
      rw [sg_143_5, sp_45 (zStk_r15 zStk_49) v.1 (by omega) (by decide), (hc a v.1 v.2).2.2]
      simp only [zk_l, zk_r, Option.toList_some, Option.toList_none, List.cons_append, List.nil_append, zrokB, zrokB0, zrokB1, zrokJ0, zrokJ1, and_true, true_and, and_self, if_true, if_false, b2_0, b2_1, b2_not, ite_self]
      rw [sg_143_16]
    · rw [sg_300_0]
      simp (disch := first | assumption | omega) only [jI_cl, jm_n, jz_n, i_lit, i_c0, i_c1, Int.toNat_of_nonneg, Int.toNat_natCast, jrow_same, jrow_ne, jrow_jrow, sset_eq, sset_ne]
      rw [sp_215v v.1 (by rw [jrow_ne (by decide)]; exact v.2) (by rw [jrow_ne (by decide)]; exact b8)]
      simp only [zk_l, zk_r, Option.toList_some, Option.toList_none, List.cons_append, List.nil_append, zrokB, zrokB0, zrokB1, zrokJ0, zrokJ1, and_true, true_and, and_self, if_true, if_false, b2_0, b2_1, b2_not, ite_self]
      rw [sg_300_11, sp_178t]
      simp only [zk_l, zk_r, Option.toList_some, Option.toList_none, List.cons_append, List.nil_append, zrokB, zrokB0, zrokB1, zrokJ0, zrokJ1, and_true, true_and, and_self, if_true, if_false, b2_0, b2_1, b2_not, ite_self]
      rw [sg_300_15, if_pos (by decide), sp_219 (by omega) (by omega) v.1 (by omega), jrow_ne (by decide)]
      simp only [zk_l, zk_r, Option.toList_some, Option.toList_none, List.cons_append, List.nil_append, zrokB, zrokB0, zrokB1, zrokJ0, zrokJ1, and_true, true_and, and_self, if_true, if_false, b2_0, b2_1, b2_not, ite_self]
      rw [sg_300_28]
  · refine ⟨oE 0, J, 0, jrow J 353 (sset (J 353) 0 1), fun Q => ?_, fun Q => ?_, kp_thr, mt_er 0 0 rfl rfl⟩
    · rw [sg_143_0, sp_164n a1 a2 (by rw [hu3]; exact v) (by omega) (by omega)]
      simp only [zk_l, zk_r, Option.toList_some, Option.toList_none, List.cons_append, List.nil_append, zrokB, zrokB0, zrokB1, zrokJ0, zrokJ1, and_true, true_and, and_self, if_true, if_false, b2_0, b2_1, b2_not, ite_self]
    · rw [sg_300_0]
      simp (disch := first | assumption | omega) only [jI_cl, jm_n, jz_n, i_lit, i_c0, i_c1, Int.toNat_of_nonneg, Int.toNat_natCast, jrow_same, jrow_ne, jrow_jrow, sset_eq, sset_ne]
      rw [sp_215n a1 a2 (by rw [jrow_ne (by decide)]; exact v) (by rw [jrow_ne (by decide)]; exact b7) (by rw [jrow_ne (by decide)]; exact b8)]
      simp only [zk_l, zk_r, Option.toList_some, Option.toList_none, List.cons_append, List.nil_append, zrokB, zrokB0, zrokB1, zrokJ0, zrokJ1, and_true, true_and, and_self, if_true, if_false, b2_0, b2_1, b2_not, ite_self]
      rw [sg_300_11, sp_178f]
      simp only [sset_ss, zk_l, zk_r, Option.toList_some, Option.toList_none, List.cons_append, List.nil_append, zrokB, zrokB0, zrokB1, zrokJ0, zrokJ1, and_true, true_and, and_self, if_true, if_false, b2_0, b2_1, b2_not, ite_self, jI_cl, jm_n, jz_n, i_lit, i_c0, i_c1, Int.toNat_of_nonneg, Int.toNat_natCast, jrow_same, jrow_ne, jrow_jrow, sset_eq, sset_ne]
      rw [sg_300_15, if_neg (by decide), sg_300_28]

end
