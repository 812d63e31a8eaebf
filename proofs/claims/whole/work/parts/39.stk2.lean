/-! ===== the class's stock: what changes it ===== -/
def cpyJ (J : zJ) (b q : Nat) : zJ := jrow (jrow (jrow (jrow (jrow (jrow (jrow (jrow (jrow (jrow (jrow (jrow (jrow (jrow (jrow J b (sset (sset (J b) 1 (J q 1)) 2 (J q 2))) (b + 1 + 1) (scpy (J (q + 1 + 1)) (J (b + 1 + 1)) 40)) (b + 3 + 1) (scpy (J (q + 3 + 1)) (J (b + 3 + 1)) 40)) (b + 5 + 1) (scpy (J (q + 5 + 1)) (J (b + 5 + 1)) 40)) (b + 7 + 1) (scpy (J (q + 7 + 1)) (J (b + 7 + 1)) 40)) (b + 9 + 1) (scpy (J (q + 9 + 1)) (J (b + 9 + 1)) 40)) (b + 11 + 1) (scpy (J (q + 11 + 1)) (J (b + 11 + 1)) 40)) (b + 13 + 1) (scpy (J (q + 13 + 1)) (J (b + 13 + 1)) 40)) (b + 15 + 1) (scpy (J (q + 15 + 1)) (J (b + 15 + 1)) 40)) b (sset (sset (sset (J b) 1 (J q 1)) 2 (J q 2)) 11 (J q 11))) (b + 17 + 1) (scpy (J (q + 17 + 1)) (J (b + 17 + 1)) 8)) (b + 19 + 1) (scpy (J (q + 19 + 1)) (J (b + 19 + 1)) 3)) (b + 21 + 1) (scpy (J (q + 21 + 1)) (J (b + 21 + 1)) 3)) (b + 23 + 1) (scpy (J (q + 23 + 1)) (J (b + 23 + 1)) 3)) (b + 25 + 1) (scpy (J (q + 25 + 1)) (J (b + 25 + 1)) 10)
section
variable {W : zW} {J : zJ} {Q : zO → zI → Prop} {b q : Nat} {s : Int → Int}
set_option maxHeartbeats 2000000 in
theorem sp_62 (hb : zStk b) (hq : zStk q) (hd : b + 27 ≤ q ∨ q + 27 ≤ b) : wz W 62 0 [.ref b, .ref q] [] (jm J) Q = Q oV (jm (cpyJ J b q)) := by
  rw [sg_62_0 (hb := hb) (hp1 := hq)]
  simp (disch := first | assumption | omega) only [jI_cl, jm_n, jz_n, i_lit, i_c0, i_c1, Int.toNat_of_nonneg, Int.toNat_natCast, jrow_same, jrow_ne, jrow_jrow, sset_eq, sset_ne]
  rw [sp_49 (zStk_r3 hb) (zStk_r3 hq) (by decide)]
  simp (disch := first | assumption | omega) only [zk_l, Option.toList_none, List.nil_append, jI_cl, jm_n, jz_n, i_lit, i_c0, i_c1, Int.toNat_of_nonneg, Int.toNat_natCast, jrow_same, jrow_ne, jrow_jrow, sset_eq, sset_ne]
  rw [sg_62_27 (hb := hb) (hp1 := hq)]
  rw [sp_49 (zStk_r4 hb) (zStk_r4 hq) (by decide)]
  simp (disch := first | assumption | omega) only [zk_l, Option.toList_none, List.nil_append, jI_cl, jm_n, jz_n, i_lit, i_c0, i_c1, Int.toNat_of_nonneg, Int.toNat_natCast, jrow_same, jrow_ne, jrow_jrow, sset_eq, sset_ne]
  rw [sg_62_38 (hb := hb) (hp1 := hq)]
  rw [sp_49 (zStk_r5 hb) (zStk_r5 hq) (by decide)]
  simp (disch := first | assumption | omega) only [zk_l, Option.toList_none, List.nil_append, jI_cl, jm_n, jz_n, i_lit, i_c0, i_c1, Int.toNat_of_nonneg, Int.toNat_natCast, jrow_same, jrow_ne, jrow_jrow, sset_eq, sset_ne]
  rw [sg_62_49 (hb := hb) (hp1 := hq)]
  rw [sp_49 (zStk_r6 hb) (zStk_r6 hq) (by decide)]
  simp (disch := first | assumption | omega) only [zk_l, Option.toList_none, List.nil_append, jI_cl, jm_n, jz_n, i_lit, i_c0, i_c1, Int.toNat_of_nonneg, Int.toNat_natCast, jrow_same, jrow_ne, jrow_jrow, sset_eq, sset_ne]
  rw [sg_62_60 (hb := hb) (hp1 := hq)]
  rw [sp_49 (zStk_r7 hb) (zStk_r7 hq) (by decide)]
  simp (disch := first | assumption | omega) only [zk_l, Option.toList_none, List.nil_append, jI_cl, jm_n, jz_n, i_lit, i_c0, i_c1, Int.toNat_of_nonneg, Int.toNat_natCast, jrow_same, jrow_ne, jrow_jrow, sset_eq, sset_ne]
  rw [sg_62_71 (hb := hb) (hp1 := hq)]
  rw [sp_49 (zStk_r8 hb) (zStk_r8 hq) (by decide)]
  simp (disch := first | assumption | omega) only [zk_l, Option.toList_none, List.nil_append, jI_cl, jm_n, jz_n, i_lit, i_c0, i_c1, Int.toNat_of_nonneg, Int.toNat_natCast, jrow_same, jrow_ne, jrow_jrow, sset_eq, sset_ne]
  rw [sg_62_82 (hb := hb) (hp1 := hq)]
  rw [sp_49 (zStk_r9 hb) (zStk_r9 hq) (by decide)]
  simp (disch := first | assumption | omega) only [zk_l, Option.toList_none, List.nil_append, jI_cl, jm_n, jz_n, i_lit, i_c0, i_c1, Int.toNat_of_nonneg, Int.toNat_natCast, jrow_same, jrow_ne, jrow_jrow, sset_eq, sset_ne]
  rw [sg_62_93 (hb := hb) (hp1 := hq)]
  rw [sp_49 (zStk_r10 hb) (zStk_r10 hq) (by decide)]
  simp (disch := first | assumption | omega) only [zk_l, Option.toList_none, List.nil_append, jI_cl, jm_n, jz_n, i_lit, i_c0, i_c1, Int.toNat_of_nonneg, Int.toNat_natCast, jrow_same, jrow_ne, jrow_jrow, sset_eq, sset_ne]
  rw [sg_62_104 (hb := hb) (hp1 := hq)]
  simp (disch := first | assumption | omega) only [jI_cl, jm_n, jz_n, i_lit, i_c0, i_c1, Int.toNat_of_nonneg, Int.toNat_natCast, jrow_same, jrow_ne, jrow_jrow, sset_eq, sset_ne]
  rw [sp_49 (zStk_r12 hb) (zStk_r12 hq) (by decide)]
  simp (disch := first | assumption | omega) only [zk_l, Option.toList_none, List.nil_append, jI_cl, jm_n, jz_n, i_lit, i_c0, i_c1, Int.toNat_of_nonneg, Int.toNat_natCast, jrow_same, jrow_ne, jrow_jrow, sset_eq, sset_ne]
  rw [sg_62_123 (hb := hb) (hp1 := hq)]
  rw [sp_49 (zStk_r13 hb) (zStk_r13 hq) (by decide)]
  simp (disch := first | assumption | omega) only [zk_l, Option.toList_none, List.nil_append, jI_cl, jm_n, jz_n, i_lit, i_c0, i_c1, Int.toNat_of_nonneg, Int.toNat_natCast, jrow_same, jrow_ne, jrow_jrow, sset_eq, sset_ne]
  rw [sg_62_134 (hb := hb) (hp1 := hq)]
  rw [sp_49 (zStk_r14 hb) (zStk_r14 hq) (by decide)]
  simp (disch := first | assumption | omega) only [zk_l, Option.toList_none, List.nil_append, jI_cl, jm_n, jz_n, i_lit, i_c0, i_c1, Int.toNat_of_nonneg, Int.toNat_natCast, jrow_same, jrow_ne, jrow_jrow, sset_eq, sset_ne]
  rw [sg_62_145 (hb := hb) (hp1 := hq)]
  rw [sp_49 (zStk_r15 hb) (zStk_r15 hq) (by decide)]
  simp (disch := first | assumption | omega) only [zk_l, Option.toList_none, List.nil_append, jI_cl, jm_n, jz_n, i_lit, i_c0, i_c1, Int.toNat_of_nonneg, Int.toNat_natCast, jrow_same, jrow_ne, jrow_jrow, sset_eq, sset_ne]
  rw [sg_62_156 (hb := hb) (hp1 := hq)]
  rw [sp_49 (zStk_r16 hb) (zStk_r16 hq) (by decide)]
  simp (disch := first | assumption | omega) only [zk_l, Option.toList_none, List.nil_append, jI_cl, jm_n, jz_n, i_lit, i_c0, i_c1, Int.toNat_of_nonneg, Int.toNat_natCast, jrow_same, jrow_ne, jrow_jrow, sset_eq, sset_ne]
  rw [sg_62_167 (hb := hb) (hp1 := hq)]
  rfl
theorem cpyJ_fr (r : Nat) (h : r < b ∨ b + 27 ≤ r) : cpyJ J b q r = J r := by
  unfold cpyJ
  simp (disch := first | assumption | omega) only [jrow_ne]
theorem cpyJ_b : cpyJ J b q b = sset (sset (sset (J b) 1 (J q 1)) 2 (J q 2)) 11 (J q 11) := by
  unfold cpyJ
  simp (disch := first | assumption | omega) only [jrow_ne, jrow_same]
theorem cpyJ_1 : cpyJ J b q (b + 1 + 1) = scpy (J (q + 1 + 1)) (J (b + 1 + 1)) 40 := by
  unfold cpyJ
  simp (disch := first | assumption | omega) only [jrow_ne, jrow_same]
theorem cpyJ_3 : cpyJ J b q (b + 3 + 1) = scpy (J (q + 3 + 1)) (J (b + 3 + 1)) 40 := by
  unfold cpyJ
  simp (disch := first | assumption | omega) only [jrow_ne, jrow_same]
theorem cpyJ_5 : cpyJ J b q (b + 5 + 1) = scpy (J (q + 5 + 1)) (J (b + 5 + 1)) 40 := by
  unfold cpyJ
  simp (disch := first | assumption | omega) only [jrow_ne, jrow_same]
theorem cpyJ_7 : cpyJ J b q (b + 7 + 1) = scpy (J (q + 7 + 1)) (J (b + 7 + 1)) 40 := by
  unfold cpyJ
  simp (disch := first | assumption | omega) only [jrow_ne, jrow_same]
theorem cpyJ_9 : cpyJ J b q (b + 9 + 1) = scpy (J (q + 9 + 1)) (J (b + 9 + 1)) 40 := by
  unfold cpyJ
  simp (disch := first | assumption | omega) only [jrow_ne, jrow_same]
theorem cpyJ_11 : cpyJ J b q (b + 11 + 1) = scpy (J (q + 11 + 1)) (J (b + 11 + 1)) 40 := by
  unfold cpyJ
  simp (disch := first | assumption | omega) only [jrow_ne, jrow_same]
theorem cpyJ_13 : cpyJ J b q (b + 13 + 1) = scpy (J (q + 13 + 1)) (J (b + 13 + 1)) 40 := by
  unfold cpyJ
  simp (disch := first | assumption | omega) only [jrow_ne, jrow_same]
theorem cpyJ_15 : cpyJ J b q (b + 15 + 1) = scpy (J (q + 15 + 1)) (J (b + 15 + 1)) 40 := by
  unfold cpyJ
  simp (disch := first | assumption | omega) only [jrow_ne, jrow_same]
theorem cpyJ_17 : cpyJ J b q (b + 17 + 1) = scpy (J (q + 17 + 1)) (J (b + 17 + 1)) 8 := by
  unfold cpyJ
  simp (disch := first | assumption | omega) only [jrow_ne, jrow_same]
theorem cpyJ_19 : cpyJ J b q (b + 19 + 1) = scpy (J (q + 19 + 1)) (J (b + 19 + 1)) 3 := by
  unfold cpyJ
  simp (disch := first | assumption | omega) only [jrow_ne, jrow_same]
theorem cpyJ_21 : cpyJ J b q (b + 21 + 1) = scpy (J (q + 21 + 1)) (J (b + 21 + 1)) 3 := by
  unfold cpyJ
  simp (disch := first | assumption | omega) only [jrow_ne, jrow_same]
theorem cpyJ_23 : cpyJ J b q (b + 23 + 1) = scpy (J (q + 23 + 1)) (J (b + 23 + 1)) 3 := by
  unfold cpyJ
  simp (disch := first | assumption | omega) only [jrow_ne, jrow_same]
theorem cpyJ_25 : cpyJ J b q (b + 25 + 1) = scpy (J (q + 25 + 1)) (J (b + 25 + 1)) 10 := by
  unfold cpyJ
  simp (disch := first | assumption | omega) only [jrow_ne, jrow_same]
theorem cpyJ_RS (h : RS J q s) (h6 : s 6 ≤ 40) (h8 : s 8 ≤ 8) (h4 : s 4 ≤ 3) (h7 : s 7 ≤ 10) : RS (cpyJ J b q) b s := by
  obtain ⟨d1, d2, d3, hp, hq, hc, ho⟩ := h
  refine ⟨?_, ?_, ?_, fun p p0 p1 => ?_, fun i i0 i1 => ?_, fun c c0 c1 => ?_, fun o o0 o1 => ?_⟩
  · rw [cpyJ_b]; simp (disch := first | assumption | omega) only [sset_ne, sset_eq]; exact d1
  · rw [cpyJ_b]; simp (disch := first | assumption | omega) only [sset_ne, sset_eq]; exact d2
  · rw [cpyJ_b]; simp (disch := first | assumption | omega) only [sset_eq]; exact d3
  · rw [cpyJ_1, cpyJ_3, cpyJ_5, cpyJ_7, cpyJ_9, cpyJ_11, cpyJ_13, cpyJ_15, scpy_in p0 (by omega), scpy_in p0 (by omega), scpy_in p0 (by omega), scpy_in p0 (by omega), scpy_in p0 (by omega), scpy_in p0 (by omega), scpy_in p0 (by omega), scpy_in p0 (by omega)]
    exact hp p p0 p1
  · rw [cpyJ_17, scpy_in i0 (by omega)]; exact hq i i0 i1
  · rw [cpyJ_19, cpyJ_21, cpyJ_23, scpy_in c0 (by omega), scpy_in c0 (by omega), scpy_in c0 (by omega)]; exact hc c c0 c1
  · rw [cpyJ_25, scpy_in o0 (by omega)]; exact ho o o0 o1
end
section
variable {W : zW} {J : zJ} {Q : zO → zI → Prop} {b : Nat} {s : Int → Int} {D k : Int}
theorem sp_64 (hb : zStk b) {p : Int} (h0 : 0 ≤ J b 11) (h1 : J b 11 < 8) : wz W 64 0 [.ref b, .int (jI p)] [] (jm J) Q = Q oV (jm (jrow (jrow J (b + 17 + 1) (sset (J (b + 17 + 1)) (J b 11) p)) b (sset (J b) 11 (J b 11 + 1)))) := by
  rw [sg_64_0 (hb := hb)]
  simp (disch := first | assumption | omega) only [jI_cl, jm_n, jz_n, i_lit, i_c0, i_c1, Int.toNat_of_nonneg, Int.toNat_natCast, jrow_same, jrow_ne, jrow_jrow, sset_eq, sset_ne]
  rw [sp_46 (zStk_r12 hb) h0 (by omega) (by decide)]
  simp (disch := first | assumption | omega) only [sg_64_12, zk_l, zk_r, Option.toList_some, Option.toList_none, List.cons_append, List.nil_append, zrokB, zrokB0, zrokB1, zrokJ0, zrokJ1, and_true, true_and, and_self, if_true, if_false, b2_0, b2_1, b2_not, ite_self, Int.add_zero, jI_nat, jI_add, jI_sub, jI_mul, jI_neg, jI_lt, jI_le, jI_eq, jI_lt0, jI_0lt, jI_le0, jI_0le, jI_eq0, jI_in, jI_dv, i_mod, jI_cl, jm_n, jz_n, i_lit, i_c0, i_c1, Int.toNat_of_nonneg, Int.toNat_natCast, jrow_same, jrow_ne, jrow_jrow, sset_eq, sset_ne]
set_option maxHeartbeats 2000000 in
theorem sp_63 (h : CX J b s D k) {g : Int} (h6 : s 6 < 40) (h8 : s 8 < 8) : ∃ J', (∀ Q : zO → zI → Prop, wz W 63 0 [.ref b, .int (jI g), .float 0] [] (jm J) Q = Q (oI (s 6)) (jm J')) ∧ RS J' b (fAdd s g) ∧ ∀ r, (r < b ∨ b + 27 ≤ r) → J' r = J r := by
  obtain ⟨hb, hS, hU, hK, ⟨⟨a1, a2, a3, a4, a5, a6⟩, -⟩, -, -⟩ := h
  obtain ⟨b1, b2, b3, b4, b5, b6, b7, b8, b9, b10, b11, b12⟩ := hK.1
  obtain ⟨d1, d2, d3, hp, hq, hc, ho⟩ := hS
  refine ⟨jrow (jrow (jrow (jrow (jrow (jrow (jrow (jrow (jrow (jrow (jrow J b (sset (J b) 2 (s 6 + 1))) (b + 1 + 1) (sset (J (b + 1 + 1)) (s 6) g)) (b + 3 + 1) (sset (J (b + 3 + 1)) (s 6) 0)) (b + 5 + 1) (sset (J (b + 5 + 1)) (s 6) (-1))) (b + 7 + 1) (sset (J (b + 7 + 1)) (s 6) (-1))) (b + 9 + 1) (sset (J (b + 9 + 1)) (s 6) (s 0))) (b + 11 + 1) (sset (J (b + 11 + 1)) (s 6) (-1))) (b + 13 + 1) (sset (J (b + 13 + 1)) (s 6) 0)) (b + 15 + 1) (sset (J (b + 15 + 1)) (s 6) 0)) (b + 17 + 1) (sset (J (b + 17 + 1)) (s 8) (s 6))) b (sset (sset (J b) 2 (s 6 + 1)) 11 (s 8 + 1)), fun Q => ?_, ?_, ?_⟩
  · rw [sg_63_0 (hb := hb)]
    simp (disch := first | assumption | omega) only [d1, d2, d3, Int.add_zero, jI_nat, jI_add, jI_sub, jI_mul, jI_neg, jI_lt, jI_le, jI_eq, jI_lt0, jI_0lt, jI_le0, jI_0le, jI_eq0, jI_in, jI_dv, i_mod, jI_cl, jm_n, jz_n, i_lit, i_c0, i_c1, Int.toNat_of_nonneg, Int.toNat_natCast, jrow_same, jrow_ne, jrow_jrow, sset_eq, sset_ne]
    rw [sp_46 (zStk_r3 hb) a3 (by omega) (by decide)]
    simp (disch := first | assumption | omega) only [zk_l, zk_r, Option.toList_some, Option.toList_none, List.cons_append, List.nil_append, zrokB, zrokB0, zrokB1, zrokJ0, zrokJ1, and_true, true_and, and_self, if_true, if_false, b2_0, b2_1, b2_not, ite_self, jI_cl, jm_n, jz_n, i_lit, i_c0, i_c1, Int.toNat_of_nonneg, Int.toNat_natCast, jrow_same, jrow_ne, jrow_jrow, sset_eq, sset_ne]
    rw [sg_63_24 (hb := hb), sp_46 (zStk_r4 hb) a3 (by omega) (by decide)]
    simp (disch := first | assumption | omega) only [zk_l, zk_r, Option.toList_some, Option.toList_none, List.cons_append, List.nil_append, zrokB, zrokB0, zrokB1, zrokJ0, zrokJ1, and_true, true_and, and_self, if_true, if_false, b2_0, b2_1, b2_not, ite_self, jI_cl, jm_n, jz_n, i_lit, i_c0, i_c1, Int.toNat_of_nonneg, Int.toNat_natCast, jrow_same, jrow_ne, jrow_jrow, sset_eq, sset_ne]
    rw [sg_63_33 (hb := hb), sp_46 (zStk_r5 hb) a3 (by omega) (by decide)]
    simp (disch := first | assumption | omega) only [zk_l, zk_r, Option.toList_some, Option.toList_none, List.cons_append, List.nil_append, zrokB, zrokB0, zrokB1, zrokJ0, zrokJ1, and_true, true_and, and_self, if_true, if_false, b2_0, b2_1, b2_not, ite_self, jI_cl, jm_n, jz_n, i_lit, i_c0, i_c1, Int.toNat_of_nonneg, Int.toNat_natCast, jrow_same, jrow_ne, jrow_jrow, sset_eq, sset_ne]
    rw [sg_63_42 (hb := hb), sp_46 (zStk_r6 hb) a3 (by omega) (by decide)]
    simp (disch := first | assumption | omega) only [zk_l, zk_r, Option.toList_some, Option.toList_none, List.cons_append, List.nil_append, zrokB, zrokB0, zrokB1, zrokJ0, zrokJ1, and_true, true_and, and_self, if_true, if_false, b2_0, b2_1, b2_not, ite_self, jI_cl, jm_n, jz_n, i_lit, i_c0, i_c1, Int.toNat_of_nonneg, Int.toNat_natCast, jrow_same, jrow_ne, jrow_jrow, sset_eq, sset_ne]
    rw [sg_63_51 (hb := hb)]
    simp (disch := first | assumption | omega) only [d1, zk_l, zk_r, Option.toList_some, Option.toList_none, List.cons_append, List.nil_append, zrokB, zrokB0, zrokB1, zrokJ0, zrokJ1, and_true, true_and, and_self, if_true, if_false, b2_0, b2_1, b2_not, ite_self, jI_cl, jm_n, jz_n, i_lit, i_c0, i_c1, Int.toNat_of_nonneg, Int.toNat_natCast, jrow_same, jrow_ne, jrow_jrow, sset_eq, sset_ne]
    rw [sp_46 (zStk_r7 hb) a3 (by omega) (by decide)]
    simp (disch := first | assumption | omega) only [zk_l, zk_r, Option.toList_some, Option.toList_none, List.cons_append, List.nil_append, zrokB, zrokB0, zrokB1, zrokJ0, zrokJ1, and_true, true_and, and_self, if_true, if_false, b2_0, b2_1, b2_not, ite_self, jI_cl, jm_n, jz_n, i_lit, i_c0, i_c1, Int.toNat_of_nonneg, Int.toNat_natCast, jrow_same, jrow_ne, jrow_jrow, sset_eq, sset_ne]
    rw [sg_63_63 (hb := hb), sp_46 (zStk_r8 hb) a3 (by omega) (by decide)]
    simp (disch := first | assumption | omega) only [zk_l, zk_r, Option.toList_some, Option.toList_none, List.cons_append, List.nil_append, zrokB, zrokB0, zrokB1, zrokJ0, zrokJ1, and_true, true_and, and_self, if_true, if_false, b2_0, b2_1, b2_not, ite_self, jI_cl, jm_n, jz_n, i_lit, i_c0, i_c1, Int.toNat_of_nonneg, Int.toNat_natCast, jrow_same, jrow_ne, jrow_jrow, sset_eq, sset_ne]
    rw [sg_63_72 (hb := hb), sp_46 (zStk_r9 hb) a3 (by omega) (by decide)]
    simp (disch := first | assumption | omega) only [zk_l, zk_r, Option.toList_some, Option.toList_none, List.cons_append, List.nil_append, zrokB, zrokB0, zrokB1, zrokJ0, zrokJ1, and_true, true_and, and_self, if_true, if_false, b2_0, b2_1, b2_not, ite_self, jI_cl, jm_n, jz_n, i_lit, i_c0, i_c1, Int.toNat_of_nonneg, Int.toNat_natCast, jrow_same, jrow_ne, jrow_jrow, sset_eq, sset_ne]
    rw [sg_63_81 (hb := hb), sp_46 (zStk_r10 hb) a3 (by omega) (by decide)]
    simp (disch := first | assumption | omega) only [zk_l, zk_r, Option.toList_some, Option.toList_none, List.cons_append, List.nil_append, zrokB, zrokB0, zrokB1, zrokJ0, zrokJ1, and_true, true_and, and_self, if_true, if_false, b2_0, b2_1, b2_not, ite_self, jI_cl, jm_n, jz_n, i_lit, i_c0, i_c1, Int.toNat_of_nonneg, Int.toNat_natCast, jrow_same, jrow_ne, jrow_jrow, sset_eq, sset_ne]
    rw [sg_63_90 (hb := hb), sp_64 hb (by simp (disch := first | assumption | omega) only [d3, jI_cl, jm_n, jz_n, i_lit, i_c0, i_c1, Int.toNat_of_nonneg, Int.toNat_natCast, jrow_same, jrow_ne, jrow_jrow, sset_eq, sset_ne]; omega) (by simp (disch := first | assumption | omega) only [d3, jI_cl, jm_n, jz_n, i_lit, i_c0, i_c1, Int.toNat_of_nonneg, Int.toNat_natCast, jrow_same, jrow_ne, jrow_jrow, sset_eq, sset_ne]; omega)]
    simp (disch := first | assumption | omega) only [d3, zk_l, zk_r, Option.toList_some, Option.toList_none, List.cons_append, List.nil_append, zrokB, zrokB0, zrokB1, zrokJ0, zrokJ1, and_true, true_and, and_self, if_true, if_false, b2_0, b2_1, b2_not, ite_self, jI_cl, jm_n, jz_n, i_lit, i_c0, i_c1, Int.toNat_of_nonneg, Int.toNat_natCast, jrow_same, jrow_ne, jrow_jrow, sset_eq, sset_ne]
    rw [sg_63_95 (hb := hb)]
  · have t6 : fAdd s g 6 = s 6 + 1 := by unfold fAdd; simp (disch := first | assumption | omega) only [sset_ne, sset_eq]
    have t8 : fAdd s g 8 = s 8 + 1 := by unfold fAdd; simp (disch := first | assumption | omega) only [sset_ne, sset_eq]
    have ht : ∀ j, (j < 72 + 7 * s 6 ∨ 72 + 7 * s 6 + 7 ≤ j) ∧ j ≠ 392 + s 8 ∧ j ≠ 8 ∧ j ≠ 6 → fAdd s g j = s j := by
      intro j hj
      unfold fAdd
      simp (disch := first | assumption | omega) only [sset_ne, zro_ne]
    refine ⟨?_, ?_, ?_, fun p p0 p1 => ?_, fun i i0 i1 => ?_, fun c c0 c1 => ?_, fun o o0 o1 => ?_⟩
    · simp (disch := first | assumption | omega) only [jI_cl, jm_n, jz_n, i_lit, i_c0, i_c1, Int.toNat_of_nonneg, Int.toNat_natCast, jrow_same, jrow_ne, jrow_jrow, sset_eq, sset_ne]
      rw [ht 0 (by omega)]
      exact d1
    · simp (disch := first | assumption | omega) only [jI_cl, jm_n, jz_n, i_lit, i_c0, i_c1, Int.toNat_of_nonneg, Int.toNat_natCast, jrow_same, jrow_ne, jrow_jrow, sset_eq, sset_ne]
      exact t6.symm
    · simp (disch := first | assumption | omega) only [jI_cl, jm_n, jz_n, i_lit, i_c0, i_c1, Int.toNat_of_nonneg, Int.toNat_natCast, jrow_same, jrow_ne, jrow_jrow, sset_eq, sset_ne]
      exact t8.symm
    · simp (disch := first | assumption | omega) only [jI_cl, jm_n, jz_n, i_lit, i_c0, i_c1, Int.toNat_of_nonneg, Int.toNat_natCast, jrow_same, jrow_ne, jrow_jrow, sset_eq, sset_ne]
      rw [t6] at p1
      by_cases e : p = s 6
      · subst e
        unfold fAdd
        simp (disch := first | assumption | omega) only [sset_ne, sset_eq, zro_in]
        exact ⟨trivial, trivial, rfl, rfl, trivial, fun h9 => absurd h9 (by omega), trivial, trivial⟩
      · simp (disch := first | assumption | omega) only [sset_ne, ht]
        exact hp p p0 (by omega)
    · simp (disch := first | assumption | omega) only [jI_cl, jm_n, jz_n, i_lit, i_c0, i_c1, Int.toNat_of_nonneg, Int.toNat_natCast, jrow_same, jrow_ne, jrow_jrow, sset_eq, sset_ne]
      rw [t8] at i1
      by_cases e : i = s 8
      · subst e
        unfold fAdd
        simp (disch := first | assumption | omega) only [sset_ne, sset_eq]
      · simp (disch := first | assumption | omega) only [sset_ne, ht]
        exact hq i i0 (by omega)
    · simp (disch := first | assumption | omega) only [jI_cl, jm_n, jz_n, i_lit, i_c0, i_c1, Int.toNat_of_nonneg, Int.toNat_natCast, jrow_same, jrow_ne, jrow_jrow, sset_eq, sset_ne]
      rw [ht 4 (by omega)] at c1
      simp (disch := first | assumption | omega) only [ht]
      exact hc c c0 c1
    · simp (disch := first | assumption | omega) only [jI_cl, jm_n, jz_n, i_lit, i_c0, i_c1, Int.toNat_of_nonneg, Int.toNat_natCast, jrow_same, jrow_ne, jrow_jrow, sset_eq, sset_ne]
      rw [ht 7 (by omega)] at o1
      simp (disch := first | assumption | omega) only [ht]
      exact ho o o0 o1
  · intro r hr
    simp (disch := first | assumption | omega) only [jrow_ne]
/-- leaving the queue: the waiting row without p -/
def lvk (f : Int → Int) (m i : Int) : Int → Int := fun j => if m ≤ j ∧ j < i - 1 then f (j + 1) else f j
theorem sp_65 (hb : zStk b) {p : Int} (p1 : -2147483648 ≤ p) (p2 : p < 2147483648) (h8 : J b 11 = s 8) (a5 : 0 ≤ s 8) (a6 : s 8 ≤ 8) (hq : ∀ i, 0 ≤ i → i < s 8 → J (b + 17 + 1) i = s (392 + i)) (hbd : ∀ i, 0 ≤ i → i < s 8 → -2147483648 ≤ s (392 + i) ∧ s (392 + i) < 2147483648) (h : ∃ i, 0 ≤ i ∧ i < s 8 ∧ s (392 + i) = p) (hne : ∀ i j, 0 ≤ i → i < j → j < s 8 → s (392 + i) ≠ s (392 + j)) :
    ∃ f, (∀ Q : zO → zI → Prop, wz W 65 0 [.ref b, .int (jI p), .float 0, .float 0, .float 0] [] (jm J) Q = Q oV (jm (jrow (jrow J (b + 17 + 1) f) b (sset (J b) 11 (s 8 - 1))))) ∧ ∀ i, 0 ≤ i → i < s 8 - 1 → f i = fLv s p (392 + i) := by
  obtain ⟨q1, q2, q3⟩ := qps_at a6 h
  generalize hm : qps s p = m at *
  have hrow : ∀ i, 0 ≤ i → i < s 8 → s (392 + i) = p → i = m := by
    intro i i0 i1 h9
    rcases (by omega : i < m ∨ i = m ∨ (m : Int) < i) with c | c | c
    · exact absurd (h9.trans q2.symm) (hne i m i0 c q1)
    · exact c
    · exact absurd (q2.trans h9.symm) (hne m i (by omega) c i1)
  let kp : Nat → Int := fun i => if i ≤ m then i else i - 1
  let fr : Nat → Int → Int := fun i j => if (m : Int) ≤ j ∧ j < kp i then s (392 + (j + 1)) else J (b + 17 + 1) j
  have hstep : ∀ (i : Nat) (Q : zO → zI → Prop) (v : Value), (i : Int) < s 8 → ∃ v', wz W 65 4 [.ref b, .int (jI p), .int (jI (kp i)), .int (jI i), v] [] (jm (jrow J (b + 17 + 1) (fr i))) Q = wz W 65 4 [.ref b, .int (jI p), .int (jI (kp (i + 1))), .int (jI (i + 1 : Nat)), v'] [] (jm (jrow J (b + 17 + 1) (fr (i + 1)))) Q := by
    intro i Q v hi
    have hk : 0 ≤ kp i ∧ kp i ≤ i := by show 0 ≤ (if i ≤ m then (i : Int) else i - 1) ∧ (if i ≤ m then (i : Int) else i - 1) ≤ i; split <;> omega
    have hfi : fr i i = s (392 + i) := by
      show (if (m : Int) ≤ i ∧ (i : Int) < kp i then _ else _) = _
      rw [if_neg (by omega)]
      exact hq i (by omega) hi
    have hbi := hbd i (by omega) hi
    have e8 : jm (jrow J (b + 17 + 1) (fr i)) b 11 = jI (s 8) := by
      simp (disch := first | assumption | omega) only [h8, jI_cl, jm_n, jz_n, i_lit, i_c0, i_c1, Int.toNat_of_nonneg, Int.toNat_natCast, jrow_same, jrow_ne, jrow_jrow, sset_eq, sset_ne]
    refine ⟨.int (jI (s (392 + i))), ?_⟩
    rw [sg_65_4 (hb := hb), e8, if_neg (by rw [jI_le (by omega) (by omega) (by omega) (by omega)]; omega), sp_45 (zStk_r12 hb) (by omega) (by omega) (by decide), jrow_same, hfi]
    simp only [zk_l, zk_r, Option.toList_some, Option.toList_none, List.cons_append, List.nil_append, zrokB, zrokB0, zrokB1, zrokJ0, zrokJ1, and_true, true_and, and_self, if_true, if_false, b2_0, b2_1, b2_not, ite_self]
    rw [sg_65_20 (hb := hb)]
    by_cases c : s (392 + (i : Int)) = p
    · have him := hrow i (by omega) hi c
      rw [if_pos (by rw [c]), sg_65_41 (hb := hb), jI_add]
      have e1 : kp (i + 1) = kp i := by
        show (if i + 1 ≤ m then ((i + 1 : Nat) : Int) else ((i + 1 : Nat) : Int) - 1) = (if i ≤ m then (i : Int) else i - 1)
        rw [if_neg (by omega), if_pos (by omega)]
        omega
      have e2 : fr (i + 1) = fr i := by
        funext j
        show (if (m : Int) ≤ j ∧ j < kp (i + 1) then _ else _) = (if (m : Int) ≤ j ∧ j < kp i then _ else _)
        rw [e1]
      rw [e1, e2]
      rfl
    · have hni : i ≠ m := fun h9 => c (by rw [h9]; exact q2)
      have hkb : kp i < 8 := by omega
      rw [if_neg (by rw [jI_eq (by omega) (by omega) p1 p2]; exact c), sp_46 (zStk_r12 hb) hk.1 (by omega) (by decide)]
      simp (disch := first | assumption | omega) only [zk_l, zk_r, Option.toList_some, Option.toList_none, List.cons_append, List.nil_append, zrokB, zrokB0, zrokB1, zrokJ0, zrokJ1, and_true, true_and, and_self, if_true, if_false, b2_0, b2_1, b2_not, ite_self, jI_cl, jm_n, jz_n, i_lit, i_c0, i_c1, Int.toNat_of_nonneg, Int.toNat_natCast, jrow_same, jrow_ne, jrow_jrow, sset_eq, sset_ne]
      rw [sg_65_38 (hb := hb), sg_65_41 (hb := hb), jI_add, jI_add]
      have e1 : kp (i + 1) = kp i + 1 := by
        show (if i + 1 ≤ m then ((i + 1 : Nat) : Int) else ((i + 1 : Nat) : Int) - 1) = (if i ≤ m then (i : Int) else i - 1) + 1
        by_cases c2 : i ≤ m
        · rw [if_pos (by omega), if_pos c2]; omega
        · rw [if_neg (by omega), if_neg c2]; omega
      have e2 : sset (fr i) (kp i) (s (392 + i)) = fr (i + 1) := by
        funext j
        show (if j = kp i then _ else (if (m : Int) ≤ j ∧ j < kp i then _ else _)) = (if (m : Int) ≤ j ∧ j < kp (i + 1) then _ else _)
        rw [e1]
        by_cases c2 : j = kp i
        · rw [if_pos c2]
          by_cases c3 : i ≤ m
          · have e3 : kp i = i := by show (if i ≤ m then (i : Int) else i - 1) = i; rw [if_pos c3]
            rw [if_neg (by omega), c2, e3]
            exact (hq i (by omega) hi).symm
          · have e3 : kp i = i - 1 := by show (if i ≤ m then (i : Int) else i - 1) = i - 1; rw [if_neg c3]
            rw [if_pos (by omega), show j + 1 = (i : Int) by omega]
        · rw [if_neg c2]
          by_cases c3 : (m : Int) ≤ j ∧ j < kp i
          · rw [if_pos c3, if_pos (by omega)]
          · rw [if_neg c3, if_neg (by omega)]
      rw [e1, e2]
      rfl
  have hall : ∀ (n : Nat) (Q : zO → zI → Prop), (n : Int) ≤ s 8 → ∃ v', wz W 65 4 [.ref b, .int (jI p), .int (jI (kp 0)), .int (jI (0 : Nat)), .float 0] [] (jm (jrow J (b + 17 + 1) (fr 0))) Q = wz W 65 4 [.ref b, .int (jI p), .int (jI (kp n)), .int (jI n), v'] [] (jm (jrow J (b + 17 + 1) (fr n))) Q := by
    intro n Q
    induction n with
    | zero => intro _; exact ⟨_, rfl⟩
    | succ n ih =>
      intro hn
      obtain ⟨v1, e1⟩ := ih (by omega)
      obtain ⟨v2, e2⟩ := hstep n Q v1 (by omega)
      exact ⟨v2, e1.trans e2⟩
  refine ⟨fr (s 8).toNat, fun Q => ?_, fun i i0 i1 => ?_⟩
  · rw [sg_65_0 (hb := hb)]
    have hk0 : kp 0 = 0 := rfl
    have hf0 : jrow J (b + 17 + 1) (fr 0) = J := by
      have : fr 0 = J (b + 17 + 1) := by
        funext j
        show (if (m : Int) ≤ j ∧ j < kp 0 then _ else _) = _
        rw [hk0, if_neg (by omega)]
      rw [this, jrow_id]
    obtain ⟨v', e⟩ := hall (s 8).toNat Q (by omega)
    rw [hf0] at e
    refine Eq.trans e ?_
    have hkn : kp (s 8).toNat = s 8 - 1 := by
      show (if (s 8).toNat ≤ m then (((s 8).toNat : Nat) : Int) else (((s 8).toNat : Nat) : Int) - 1) = s 8 - 1
      rw [if_neg (by omega)]
      omega
    have e8 : jm (jrow J (b + 17 + 1) (fr (s 8).toNat)) b 11 = jI (s 8) := by
      simp (disch := first | assumption | omega) only [h8, jI_cl, jm_n, jz_n, i_lit, i_c0, i_c1, Int.toNat_of_nonneg, Int.toNat_natCast, jrow_same, jrow_ne, jrow_jrow, sset_eq, sset_ne]
    rw [sg_65_4 (hb := hb), e8, if_pos (by rw [jI_le (by omega) (by omega) (by omega) (by omega)]; omega), hkn]
    simp (disch := first | assumption | omega) only [jI_cl, jm_n, jz_n, i_lit, i_c0, i_c1, Int.toNat_of_nonneg, Int.toNat_natCast, jrow_same, jrow_ne, jrow_jrow, sset_eq, sset_ne]
  · have hkn : kp (s 8).toNat = s 8 - 1 := by
      show (if (s 8).toNat ≤ m then (((s 8).toNat : Nat) : Int) else (((s 8).toNat : Nat) : Int) - 1) = s 8 - 1
      rw [if_neg (by omega)]
      omega
    show (if (m : Int) ≤ i ∧ i < kp (s 8).toNat then s (392 + (i + 1)) else J (b + 17 + 1) i) = _
    unfold fLv fLvk
    rw [hkn, hm, if_neg (show ¬ 392 + i = 8 by omega)]
    by_cases c : (m : Int) ≤ i
    · rw [if_pos (by omega), if_pos (by omega), show 392 + (i + 1) = 392 + i + 1 by omega]
    · rw [if_neg (by omega), if_neg (by omega)]
      exact hq i i0 (by omega)
end
