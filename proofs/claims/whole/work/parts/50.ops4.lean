/-! ===== calls that only ask, fourth lot ===== -/
section
variable {W : zW} {J : zJ} {Q : zO → zI → Prop} {k : Int}
/-- the class's order: its switch -/
theorem sp_120 (hv : ∀ Q : zO → zI → Prop, ∀ a : Int32, wz W 165 0 [.ref 0, .int a] [] (jm J) Q = wz W 165 0 [.ref 0, .int a] [] (jm J) Q) {a : Int} (x : Int32) : wz W 120 0 [.ref 0, .int (jI a), .int x] [] (jm J) Q = wz W 165 0 [.ref 0, .int (jI a)] [] (jm J) (zk Q (fun v I1 => wz W 120 5 [.ref 0, .int (jI a), .int x] (v.toList ++ []) I1 Q)) :=
  (wz_go 2 (pc' := 2) (L' := [.ref 0, .int (jI a), .int x]) (S' := [.int (jI a), .ref 0]) (I' := jm J) rfl).trans (wz_ivt rfl rfl rfl rfl (zrecv_of (ci := 9) (by decide) h_0) rfl)
theorem sp_120k {a : Int} {x : Int32} (pc : Nat) (row cl fld own : Nat) (h1 : zgo 2 120 5 [.ref 0, .int (jI a), .int x] [] (Hc, jm J, W) = some (pc, [.ref 0, .int (jI a), .int x], [], (Hc, jm J, W))) : wz W 120 5 [.ref 0, .int (jI a), .int x] [] (jm J) Q = wz W 120 pc [.ref 0, .int (jI a), .int x] [] (jm J) Q := wz_go 2 h1
theorem sp_120s {pc q : Nat} {a : Int} {x : Int32} (n : Nat) (hr : zRow q n) (h0 : 0 ≤ a) (h1 : a < n) (hn : n ≤ 100) (hq : ∀ Q : zO → zI → Prop, wz W 120 pc [.ref 0, .int (jI a), .int x] [] (jm J) Q = wz W 45 0 [.ref q, .int (jI a)] [] (jm J) (zk Q (fun v I1 => wz W 120 (pc + 11) [.ref 0, .int (jI a), .int x] (v.toList ++ []) I1 Q))) (hret : ∀ (Q : zO → zI → Prop) (z : Int32), wz W 120 (pc + 11) [.ref 0, .int (jI a), .int x] [.int z] (jm J) Q = Q (.inl (some (.int z))) (jm J)) : wz W 120 pc [.ref 0, .int (jI a), .int x] [] (jm J) Q = Q (oI (J (q + 1) a)) (jm J) := by
  rw [hq, sp_45 hr h0 h1 (by omega)]
  simp only [zk_l, zk_r, Option.toList_some, Option.toList_none, List.cons_append, List.nil_append, zrokB, zrokB0, zrokB1, zrokJ0, zrokJ1, and_true, true_and, and_self, if_true, if_false, b2_0, b2_1, b2_not, ite_self]
  rw [hret]
theorem op_order (hk : k ≤ 30000) {a b : Int} (a1 : -2147483648 ≤ a) (a2 : a < 2147483648) (x1 : -2147483648 ≤ b) (x2 : b < 2147483648) : Op W k [0, 1] 120 277 [.ref 0, .int (jI a), .int (jI b)] [.ref 353, .int (jI a), .int (jI b)] := by
  refine Op.q (fun J g t => ?_)
  obtain ⟨-, t2, t3, -⟩ := id t
  obtain ⟨a1', a2', a3', a4', a5', a6'⟩ := t3.1
  obtain ⟨b1, b2, b3, b4, b5, b6, b7, b8, b9, b10, b11, b12⟩ := t2.1
  obtain ⟨-, hS, hU, -⟩ := id g
  obtain ⟨d1, d2, d3, hpl, hq, hc, ho⟩ := id hS
  have hcx := GC_cx g t hk
  have hu6 := hU.2.2.1
  have href : 0 ≤ a ∧ a < J 355 7 → ∀ Q : zO → zI → Prop, wz W 277 0 [.ref 353, .int (jI a), .int (jI b)] [] (jm J) Q = wz W 176 0 [.int (jI b), .int (jI 0), .int (jI 3)] [] (jm (jrow J 353 (sset (J 353) 0 0))) (zk Q (fun v I1 => wz W 277 25 [.ref 353, .int (jI a), .int (jI b)] (v.toList ++ [.ref 353]) I1 Q)) := by
    intro v Q
    rw [sg_277_0]
    simp (disch := first | assumption | omega) only [jI_cl, jm_n, jz_n, i_lit, i_c0, i_c1, Int.toNat_of_nonneg, Int.toNat_natCast, jrow_same, jrow_ne, jrow_jrow, sset_eq, sset_ne]
    rw [sp_218v v.1 (by rw [e355]; exact v.2) (by rw [e355]; exact b12)]
    simp only [zk_l, zk_r, Option.toList_some, Option.toList_none, List.cons_append, List.nil_append, zrokB, zrokB0, zrokB1, zrokJ0, zrokJ1, and_true, true_and, and_self, if_true, if_false, b2_0, b2_1, b2_not, ite_self]
    rw [sg_277_11, sp_178t]
    simp only [zk_l, zk_r, Option.toList_some, Option.toList_none, List.cons_append, List.nil_append, zrokB, zrokB0, zrokB1, zrokJ0, zrokJ1, and_true, true_and, and_self, if_true, if_false, b2_0, b2_1, b2_not, ite_self]
    rw [sg_277_15, if_pos (by decide)]
  by_cases v : 0 ≤ a ∧ a < J 355 7
  · by_cases w : 0 ≤ b ∧ b ≤ 3
    · have hrefv : ∀ Q : zO → zI → Prop, wz W 277 0 [.ref 353, .int (jI a), .int (jI b)] [] (jm J) Q = Q (oI (J 355 (352 + 4 * a + b))) (jm (jrow J 353 (sset (J 353) 0 0))) := by
        intro Q
        rw [href v, sp_176j x1 x2 (by omega) (by omega) (by omega) (by omega), decide_eq_true w.1, decide_eq_true w.2]
        simp only [zk_l, zk_r, Option.toList_some, Option.toList_none, List.cons_append, List.nil_append, zrokB, zrokB0, zrokB1, zrokJ0, zrokJ1, and_true, true_and, and_self, if_true, if_false, b2_0, b2_1, b2_not, ite_self, Bool.and_self]
        rw [sg_277_25, sp_178t]
        simp only [zk_l, zk_r, Option.toList_some, Option.toList_none, List.cons_append, List.nil_append, zrokB, zrokB0, zrokB1, zrokJ0, zrokJ1, and_true, true_and, and_self, if_true, if_false, b2_0, b2_1, b2_not, ite_self]
        rw [sg_277_29, if_pos (by decide)]
        simp (disch := first | assumption | omega) only [zk_l, zk_r, Option.toList_some, Option.toList_none, List.cons_append, List.nil_append, zrokB, zrokB0, zrokB1, zrokJ0, zrokJ1, and_true, true_and, and_self, if_true, if_false, b2_0, b2_1, b2_not, ite_self, Int.add_zero, jI_nat, jI_add, jI_sub, jI_mul, jI_neg, jI_lt, jI_le, jI_eq, jI_lt0, jI_0lt, jI_le0, jI_0le, jI_eq0, jI_in, jI_dv, i_mod, jI_cl, jm_n, jz_n, i_lit, i_c0, i_c1, Int.toNat_of_nonneg, Int.toNat_natCast, jrow_same, jrow_ne, jrow_jrow, sset_eq, sset_ne]
        rw [sg_277_50]
      obtain ⟨-, -, -, -, -, -, -, -, -, huo⟩ := id hU
      obtain ⟨u1, u2, u3⟩ := huo a v.1 v.2
      have hso := ho a v.1 v.2
      refine ⟨oI (J 355 (352 + 4 * a + b)), J, J 355 (352 + 4 * a + b), jrow J 353 (sset (J 353) 0 0), fun Q => ?_, hrefv, kp_thr, mt_ok⟩
      rw [sp_120 (fun _ _ => rfl), sp_165v v.1 (by omega) (by omega)]
      simp only [zk_l, zk_r, Option.toList_some, Option.toList_none, List.cons_append, List.nil_append, zrokB, zrokB0, zrokB1, zrokJ0, zrokJ1, and_true, true_and, and_self, if_true, if_false, b2_0, b2_1, b2_not, ite_self]
      obtain rfl | rfl | rfl | rfl : b = 0 ∨ b = 1 ∨ b = 2 ∨ b = 3 := by omega
      · refine (wz_go 2 (pc' := 36) (L' := [.ref 0, .int (jI a), .int (jI 0)]) (S' := []) (I' := jm J) rfl).trans ?_
        rw [sp_120s 10 (zStp_r7 zStp_5) v.1 (by omega) (by decide) (fun Q => (wz_go 1 (pc' := 37) (L' := [.ref 0, .int (jI a), .int (jI 0)]) (S' := [.ref 0]) (I' := jm J) rfl).trans ((wz_gf (v := .ref 5) rfl (zget_R (ci := 9) (by decide) h_0 rfl)).trans ((wz_gf (v := .ref (5 + 5)) rfl (zget_R (ci := 6) (by decide) (zStp_sh zStp_5) rfl)).trans ((wz_go 1 (pc' := 44) (L' := [.ref 0, .int (jI a), .int (jI 0)]) (S' := [.int (jI a), .ref (5 + 5)]) (I' := jm J) rfl).trans (wz_ivt rfl rfl rfl rfl (zrecv_of (ci := 5) (by decide) (zStp_r7 zStp_5).1) rfl))))) (fun Q z => wz_iretI rfl rfl), u1, Int.add_zero]
      · refine (wz_go 2 (pc' := 48) (L' := [.ref 0, .int (jI a), .int (jI 1)]) (S' := []) (I' := jm J) rfl).trans ?_
        rw [sp_120s 10 (zStp_r8 zStp_5) v.1 (by omega) (by decide) (fun Q => (wz_go 1 (pc' := 49) (L' := [.ref 0, .int (jI a), .int (jI 1)]) (S' := [.ref 0]) (I' := jm J) rfl).trans ((wz_gf (v := .ref 5) rfl (zget_R (ci := 9) (by decide) h_0 rfl)).trans ((wz_gf (v := .ref (5 + 7)) rfl (zget_R (ci := 6) (by decide) (zStp_sh zStp_5) rfl)).trans ((wz_go 1 (pc' := 56) (L' := [.ref 0, .int (jI a), .int (jI 1)]) (S' := [.int (jI a), .ref (5 + 7)]) (I' := jm J) rfl).trans (wz_ivt rfl rfl rfl rfl (zrecv_of (ci := 5) (by decide) (zStp_r8 zStp_5).1) rfl))))) (fun Q z => wz_iretI rfl rfl), u2]
      · refine (wz_go 2 (pc' := 60) (L' := [.ref 0, .int (jI a), .int (jI 2)]) (S' := []) (I' := jm J) rfl).trans ?_
        rw [sp_120s 10 (zStp_r9 zStp_5) v.1 (by omega) (by decide) (fun Q => (wz_go 1 (pc' := 61) (L' := [.ref 0, .int (jI a), .int (jI 2)]) (S' := [.ref 0]) (I' := jm J) rfl).trans ((wz_gf (v := .ref 5) rfl (zget_R (ci := 9) (by decide) h_0 rfl)).trans ((wz_gf (v := .ref (5 + 9)) rfl (zget_R (ci := 6) (by decide) (zStp_sh zStp_5) rfl)).trans ((wz_go 1 (pc' := 68) (L' := [.ref 0, .int (jI a), .int (jI 2)]) (S' := [.int (jI a), .ref (5 + 9)]) (I' := jm J) rfl).trans (wz_ivt rfl rfl rfl rfl (zrecv_of (ci := 5) (by decide) (zStp_r9 zStp_5).1) rfl))))) (fun Q z => wz_iretI rfl rfl), u3]
      · refine (wz_go 2 (pc' := 72) (L' := [.ref 0, .int (jI a), .int (jI 3)]) (S' := []) (I' := jm J) rfl).trans ?_
        rw [sp_120s 10 (zStk_r16 zStk_49) v.1 (by omega) (by decide) (fun Q => (wz_go 1 (pc' := 73) (L' := [.ref 0, .int (jI a), .int (jI 3)]) (S' := [.ref 0]) (I' := jm J) rfl).trans ((wz_gf (v := .ref 49) rfl (zget_R (ci := 9) (by decide) h_0 rfl)).trans ((wz_gf (v := .ref (49 + 25)) rfl (zget_R (ci := 7) (by decide) (zStk_sh zStk_49) rfl)).trans ((wz_go 1 (pc' := 80) (L' := [.ref 0, .int (jI a), .int (jI 3)]) (S' := [.int (jI a), .ref (49 + 25)]) (I' := jm J) rfl).trans (wz_ivt rfl rfl rfl rfl (zrecv_of (ci := 5) (by decide) (zStk_r16 zStk_49).1) rfl))))) (fun Q z => wz_iretI rfl rfl), hso]
    · refine ⟨oE 1, J, 0, jrow J 353 (sset (J 353) 0 2), fun Q => ?_, fun Q => ?_, kp_thr, mt_er 1 1 rfl rfl⟩
      · rw [sp_120 (fun _ _ => rfl), sp_165v v.1 (by omega) (by omega)]
        simp only [zk_l, zk_r, Option.toList_some, Option.toList_none, List.cons_append, List.nil_append, zrokB, zrokB0, zrokB1, zrokJ0, zrokJ1, and_true, true_and, and_self, if_true, if_false, b2_0, b2_1, b2_not, ite_self]
        refine (wz_go 1 (pc' := 6) (L' := [.ref 0, .int (jI a), .int (jI b)]) (S' := [.int (jI b)]) (I' := jm J) rfl).trans ?_
        refine (wz_st (pc' := 84) (L' := [.ref 0, .int (jI a), .int (jI b)]) (S' := []) (I' := jm J) rfl ?_).trans ?_
        · have hi : (jI b).toInt < 0 ∨ 3 < (jI b).toInt := by rw [jI_toInt x1 x2]; omega
          simp only [zstep]
          rw [if_pos hi]
          rfl
        · exact wz_thr (a := 51) (S := []) rfl (by decide) (by decide)
      · have ef : (decide (0 ≤ b) && decide (b ≤ 3)) = false := by
          rw [← Bool.not_eq_true, Bool.and_eq_true, decide_eq_true_eq, decide_eq_true_eq]
          exact w
        rw [href v, sp_176j x1 x2 (by omega) (by omega) (by omega) (by omega), ef]
        simp only [zk_l, zk_r, Option.toList_some, Option.toList_none, List.cons_append, List.nil_append, zrokB, zrokB0, zrokB1, zrokJ0, zrokJ1, and_true, true_and, and_self, if_true, if_false, b2_0, b2_1, b2_not, ite_self]
        rw [sg_277_25, sp_178f]
        simp only [sset_ss, zk_l, zk_r, Option.toList_some, Option.toList_none, List.cons_append, List.nil_append, zrokB, zrokB0, zrokB1, zrokJ0, zrokJ1, and_true, true_and, and_self, if_true, if_false, b2_0, b2_1, b2_not, ite_self, jI_cl, jm_n, jz_n, i_lit, i_c0, i_c1, Int.toNat_of_nonneg, Int.toNat_natCast, jrow_same, jrow_ne, jrow_jrow, sset_eq, sset_ne]
        rw [sg_277_29, if_neg (by decide), sg_277_32, sg_277_50]
  · refine ⟨oE 0, J, 0, jrow J 353 (sset (J 353) 0 1), fun Q => ?_, fun Q => ?_, kp_thr, mt_er 0 0 rfl rfl⟩
    · rw [sp_120 (fun _ _ => rfl), sp_165n a1 a2 (by rw [hu6]; exact v) (by omega) (by omega)]
      simp only [zk_l, zk_r, Option.toList_some, Option.toList_none, List.cons_append, List.nil_append, zrokB, zrokB0, zrokB1, zrokJ0, zrokJ1, and_true, true_and, and_self, if_true, if_false, b2_0, b2_1, b2_not, ite_self]
    · rw [sg_277_0]
      simp (disch := first | assumption | omega) only [jI_cl, jm_n, jz_n, i_lit, i_c0, i_c1, Int.toNat_of_nonneg, Int.toNat_natCast, jrow_same, jrow_ne, jrow_jrow, sset_eq, sset_ne]
      rw [sp_218n a1 a2 (by rw [e355]; exact v) (by rw [e355]; exact b11) (by rw [e355]; exact b12)]
      simp only [zk_l, zk_r, Option.toList_some, Option.toList_none, List.cons_append, List.nil_append, zrokB, zrokB0, zrokB1, zrokJ0, zrokJ1, and_true, true_and, and_self, if_true, if_false, b2_0, b2_1, b2_not, ite_self]
      rw [sg_277_11, sp_178f]
      simp only [sset_ss, zk_l, zk_r, Option.toList_some, Option.toList_none, List.cons_append, List.nil_append, zrokB, zrokB0, zrokB1, zrokJ0, zrokJ1, and_true, true_and, and_self, if_true, if_false, b2_0, b2_1, b2_not, ite_self, jI_cl, jm_n, jz_n, i_lit, i_c0, i_c1, Int.toNat_of_nonneg, Int.toNat_natCast, jrow_same, jrow_ne, jrow_jrow, sset_eq, sset_ne]
      rw [sg_277_15, if_neg (by decide), sg_277_32, sg_277_50]
/-- failsAt -/
theorem sp_244v (hK : okK (J 355)) (h6 : J 355 6 ≤ 40) {p c r l : Int} (p0 : 0 ≤ p) (p1 : p < J 355 6) (c0 : 0 ≤ c) (c1 : c < J 355 4) (r0 : 0 ≤ r) (r1 : r < gR (J 355) c) (l0 : 0 ≤ l) (l1 : l < gC (J 355) c) : wz W 244 0 [.ref 353, .int (jI p), .int (jI c), .int (jI r), .int (jI l)] [] (jm J) Q = Q (oB false) (jm J) := by
  rw [sg_244_0, sp_217v p0 p1 h6]
  simp only [zk_l, zk_r, Option.toList_some, Option.toList_none, List.cons_append, List.nil_append, zrokB, zrokB0, zrokB1, zrokJ0, zrokJ1, and_true, true_and, and_self, if_true, if_false, b2_0, b2_1, b2_not, ite_self]
  rw [sg_244_6, if_neg (by decide), sp_215v c0 c1 hK.1.2.2.2.2.2.2.2.1]
  simp only [zk_l, zk_r, Option.toList_some, Option.toList_none, List.cons_append, List.nil_append, zrokB, zrokB0, zrokB1, zrokJ0, zrokJ1, and_true, true_and, and_self, if_true, if_false, b2_0, b2_1, b2_not, ite_self]
  rw [sg_244_14, if_neg (by decide), sg_244_22]
  refine Eq.trans (sp_178t (W := W) 1) ?_
  simp only [zk_l, zk_r, Option.toList_some, Option.toList_none, List.cons_append, List.nil_append, zrokB, zrokB0, zrokB1, zrokJ0, zrokJ1, and_true, true_and, and_self, if_true, if_false, b2_0, b2_1, b2_not, ite_self]
  rw [sg_244_26, if_pos (by decide), sp_223v hK c0 c1 r0 r1 l0 l1]
  simp only [zk_l, zk_r, Option.toList_some, Option.toList_none, List.cons_append, List.nil_append, zrokB, zrokB0, zrokB1, zrokJ0, zrokJ1, and_true, true_and, and_self, if_true, if_false, b2_0, b2_1, b2_not, ite_self]
  rw [sg_244_38, sp_178t]
  simp only [zk_l, zk_r, Option.toList_some, Option.toList_none, List.cons_append, List.nil_append, zrokB, zrokB0, zrokB1, zrokJ0, zrokJ1, and_true, true_and, and_self, if_true, if_false, b2_0, b2_1, b2_not, ite_self]
  rw [sg_244_42, if_pos (by decide), sg_244_50]
  simp only [zk_l, zk_r, Option.toList_some, Option.toList_none, List.cons_append, List.nil_append, zrokB, zrokB0, zrokB1, zrokJ0, zrokJ1, and_true, true_and, and_self, if_true, if_false, b2_0, b2_1, b2_not, ite_self]
  rfl
theorem sp_244i (hK : okK (J 355)) (h60 : 0 ≤ J 355 6) (h6 : J 355 6 ≤ 40) {p c : Int} (pa : -2147483648 ≤ p) (pb : p < 2147483648) (ca : -2147483648 ≤ c) (cb : c < 2147483648) {x y : Int32} (h : ¬ ((0 ≤ p ∧ p < J 355 6) ∧ (0 ≤ c ∧ c < J 355 4))) : wz W 244 0 [.ref 353, .int (jI p), .int (jI c), .int x, .int y] [] (jm J) Q = Q (oB true) (jm (jrow J 353 (sset (J 353) 0 1))) := by
  have h244 : wz W 244 22 [.ref 353, .int (jI p), .int (jI c), .int x, .int y] [.int (jI 0), .ref 353] (jm J) Q = Q (oB true) (jm (jrow J 353 (sset (J 353) 0 1))) := by
    rw [sg_244_22]
    refine Eq.trans (sp_178f (W := W) 1) ?_
    simp only [zk_l, zk_r, Option.toList_some, Option.toList_none, List.cons_append, List.nil_append, zrokB, zrokB0, zrokB1, zrokJ0, zrokJ1, and_true, true_and, and_self, if_true, if_false, b2_0, b2_1, b2_not, ite_self]
    rw [sg_244_26, if_neg (by decide), sg_244_45, sg_244_50]
    simp only [zk_l, zk_r, Option.toList_some, Option.toList_none, List.cons_append, List.nil_append, zrokB, zrokB0, zrokB1, zrokJ0, zrokJ1, and_true, true_and, and_self, if_true, if_false, b2_0, b2_1, b2_not, ite_self]
    rfl
  rw [sg_244_0]
  by_cases v : 0 ≤ p ∧ p < J 355 6
  · rw [sp_217v v.1 v.2 h6]
    simp only [zk_l, zk_r, Option.toList_some, Option.toList_none, List.cons_append, List.nil_append, zrokB, zrokB0, zrokB1, zrokJ0, zrokJ1, and_true, true_and, and_self, if_true, if_false, b2_0, b2_1, b2_not, ite_self]
    rw [sg_244_6, if_neg (by decide), sp_215n ca cb (fun w => h ⟨v, w⟩) hK.1.2.2.2.2.2.2.1 hK.1.2.2.2.2.2.2.2.1]
    simp only [zk_l, zk_r, Option.toList_some, Option.toList_none, List.cons_append, List.nil_append, zrokB, zrokB0, zrokB1, zrokJ0, zrokJ1, and_true, true_and, and_self, if_true, if_false, b2_0, b2_1, b2_not, ite_self]
    rw [sg_244_14, if_pos (by decide), sg_244_21, h244]
  · rw [sp_217n pa pb v h60 h6]
    simp only [zk_l, zk_r, Option.toList_some, Option.toList_none, List.cons_append, List.nil_append, zrokB, zrokB0, zrokB1, zrokJ0, zrokJ1, and_true, true_and, and_self, if_true, if_false, b2_0, b2_1, b2_not, ite_self]
    rw [sg_244_6, if_pos (by decide), sg_244_21, h244]
theorem sp_244p (hK : okK (J 355)) (h6 : J 355 6 ≤ 40) {p c r l : Int} (p0 : 0 ≤ p) (p1 : p < J 355 6) (c0 : 0 ≤ c) (c1 : c < J 355 4) (ra : -2147483648 ≤ r) (rb : r < 2147483648) (la : -2147483648 ≤ l) (lb : l < 2147483648) (h : ¬ (0 ≤ r ∧ r < gR (J 355) c ∧ 0 ≤ l ∧ l < gC (J 355) c)) : wz W 244 0 [.ref 353, .int (jI p), .int (jI c), .int (jI r), .int (jI l)] [] (jm J) Q = Q (oB true) (jm (jrow J 353 (sset (J 353) 0 2))) := by
  rw [sg_244_0, sp_217v p0 p1 h6]
  simp only [zk_l, zk_r, Option.toList_some, Option.toList_none, List.cons_append, List.nil_append, zrokB, zrokB0, zrokB1, zrokJ0, zrokJ1, and_true, true_and, and_self, if_true, if_false, b2_0, b2_1, b2_not, ite_self]
  rw [sg_244_6, if_neg (by decide), sp_215v c0 c1 hK.1.2.2.2.2.2.2.2.1]
  simp only [zk_l, zk_r, Option.toList_some, Option.toList_none, List.cons_append, List.nil_append, zrokB, zrokB0, zrokB1, zrokJ0, zrokJ1, and_true, true_and, and_self, if_true, if_false, b2_0, b2_1, b2_not, ite_self]
  rw [sg_244_14, if_neg (by decide), sg_244_22]
  refine Eq.trans (sp_178t (W := W) 1) ?_
  simp only [zk_l, zk_r, Option.toList_some, Option.toList_none, List.cons_append, List.nil_append, zrokB, zrokB0, zrokB1, zrokJ0, zrokJ1, and_true, true_and, and_self, if_true, if_false, b2_0, b2_1, b2_not, ite_self]
  rw [sg_244_26, if_pos (by decide), sp_223n hK c0 c1 ra rb la lb h]
  simp only [zk_l, zk_r, Option.toList_some, Option.toList_none, List.cons_append, List.nil_append, zrokB, zrokB0, zrokB1, zrokJ0, zrokJ1, and_true, true_and, and_self, if_true, if_false, b2_0, b2_1, b2_not, ite_self]
  rw [sg_244_38, sp_178f]
  simp only [zk_l, zk_r, Option.toList_some, Option.toList_none, List.cons_append, List.nil_append, zrokB, zrokB0, zrokB1, zrokJ0, zrokJ1, and_true, true_and, and_self, if_true, if_false, b2_0, b2_1, b2_not, ite_self]
  rw [sg_244_42, if_neg (by decide), sg_244_45, sg_244_50]
  simp only [zk_l, zk_r, Option.toList_some, Option.toList_none, List.cons_append, List.nil_append, zrokB, zrokB0, zrokB1, zrokJ0, zrokJ1, and_true, true_and, and_self, if_true, if_false, b2_0, b2_1, b2_not, ite_self]
  rfl
theorem op_storeProblem (hk : k ≤ 30000) {p a r l : Int} (p1 : -2147483648 ≤ p) (p2 : p < 2147483648) (a1 : -2147483648 ≤ a) (a2 : a < 2147483648) (r1 : -2147483648 ≤ r) (r2 : r < 2147483648) (l1 : -2147483648 ≤ l) (l2 : l < 2147483648) : Op W k [0, 1] 145 245 [.ref 0, .int (jI p), .int (jI a), .int (jI r), .int (jI l)] [.ref 353, .int (jI p), .int (jI a), .int (jI r), .int (jI l)] := by
  refine Op.q (fun J g t => ?_)
  obtain ⟨-, t2, t3, -⟩ := id t
  obtain ⟨a1', a2', a3', a4', a5', a6'⟩ := t3.1
  obtain ⟨b1, b2, b3, b4, b5, b6, b7, b8, b9, b10, b11, b12⟩ := t2.1
  obtain ⟨-, hS, hU, -⟩ := id g
  obtain ⟨d1, d2, d3, hpl, hq, hc, ho⟩ := id hS
  have hcx := GC_cx g t hk
  have hu3 := hU.2.1
  by_cases vv : (0 ≤ p ∧ p < J 355 6) ∧ (0 ≤ a ∧ a < J 355 4)
  · obtain ⟨u, v⟩ := vv
    obtain ⟨en, n1, n2, rr1, rr2, w1, w2, c3⟩ := nC_eq t2 v.1 v.2
    by_cases w : 0 ≤ r ∧ r < gR (J 355) a ∧ 0 ≤ l ∧ l < gC (J 355) a
    · have hcb := cell_bd w.1 w.2.1 w.2.2.1 w.2.2.2 w1 w2
      rw [Int.mul_comm r] at hcb
      obtain ⟨x', -, y2⟩ := sp_243 (W := W) (J := jrow J 353 (sset (J 353) 0 0)) (D := 365) (k := k) (by rw [e355]; exact t2) (by rw [e355]; exact t3) u.1 (by rw [e355]; exact u.2) v.1 (by rw [e355]; exact v.2) hcb.1 (by rw [e355]; omega)
      rw [e355] at y2
      refine ⟨oI (prb (J 355) p a (gC (J 355) a * r + l)), J, prb (J 355) p a (gC (J 355) a * r + l), jrow (jrow J 353 (sset (J 353) 0 0)) 358 x', fun Q => ?_, fun Q => ?_, kp_thr2, Or.inl ⟨rfl, by rw [jrow_ne (by decide), jrow_same, sset_eq rfl]⟩⟩
      · rw [sg_145_0, sp_163v u.1 (by omega) (by omega)]
        simp only [zk_l, zk_r, Option.toList_some, Option.toList_none, List.cons_append, List.nil_append, zrokB, zrokB0, zrokB1, zrokJ0, zrokJ1, and_true, true_and, and_self, if_true, if_false, b2_0, b2_1, b2_not, ite_self]
        rw [sg_145_5, sp_164v v.1 (by omega) (by omega)]
        simp only [zk_l, zk_r, Option.toList_some, Option.toList_none, List.cons_append, List.nil_append, zrokB, zrokB0, zrokB1, zrokJ0, zrokJ1, and_true, true_and, and_self, if_true, if_false, b2_0, b2_1, b2_not, ite_self]
        rw [sg_145_10, sp_166v hU t2 v.1 v.2 w.1 w.2.1 w.2.2.1 w.2.2.2]
        simp only [zk_l, zk_r, Option.toList_some, Option.toList_none, List.cons_append, List.nil_append, zrokB, zrokB0, zrokB1, zrokJ0, zrokJ1, and_true, true_and, and_self, if_true, if_false, b2_0, b2_1, b2_not, ite_self]
        rw [sg_145_21, sp_168 hcx u.1 u.2 v.1 v.2 hcb.1 (by omega)]
        simp only [zk_l, zk_r, Option.toList_some, Option.toList_none, List.cons_append, List.nil_append, zrokB, zrokB0, zrokB1, zrokJ0, zrokJ1, and_true, true_and, and_self, if_true, if_false, b2_0, b2_1, b2_not, ite_self]
        rw [sg_145_24]
      · rw [sg_245_0]
        simp (disch := first | assumption | omega) only [jI_cl, jm_n, jz_n, i_lit, i_c0, i_c1, Int.toNat_of_nonneg, Int.toNat_natCast, jrow_same, jrow_ne, jrow_jrow, sset_eq, sset_ne]
        rw [sp_244v (by rw [e355]; exact t2) (by rw [e355]; exact a4') u.1 (by rw [e355]; exact u.2) v.1 (by rw [e355]; exact v.2) w.1 (by rw [e355]; exact w.2.1) w.2.2.1 (by rw [e355]; exact w.2.2.2)]
        simp only [zk_l, zk_r, Option.toList_some, Option.toList_none, List.cons_append, List.nil_append, zrokB, zrokB0, zrokB1, zrokJ0, zrokJ1, and_true, true_and, and_self, if_true, if_false, b2_0, b2_1, b2_not, ite_self]
        rw [sg_245_14, if_pos (by decide), sp_224 v.1 c3, e355]
        simp only [zk_l, zk_r, Option.toList_some, Option.toList_none, List.cons_append, List.nil_append, zrokB, zrokB0, zrokB1, zrokJ0, zrokJ1, and_true, true_and, and_self, if_true, if_false, b2_0, b2_1, b2_not, ite_self]
        rw [sg_245_32, y2]
        simp only [zk_l, zk_r, Option.toList_some, Option.toList_none, List.cons_append, List.nil_append, zrokB, zrokB0, zrokB1, zrokJ0, zrokJ1, and_true, true_and, and_self, if_true, if_false, b2_0, b2_1, b2_not, ite_self]
        rw [sg_245_35]
    · refine ⟨oE 1, J, 0, jrow J 353 (sset (J 353) 0 2), fun Q => ?_, fun Q => ?_, kp_thr, mt_er 1 1 rfl rfl⟩
      · rw [sg_145_0, sp_163v u.1 (by omega) (by omega)]
        simp only [zk_l, zk_r, Option.toList_some, Option.toList_none, List.cons_append, List.nil_append, zrokB, zrokB0, zrokB1, zrokJ0, zrokJ1, and_true, true_and, and_self, if_true, if_false, b2_0, b2_1, b2_not, ite_self]
        rw [sg_145_5, sp_164v v.1 (by omega) (by omega)]
        simp only [zk_l, zk_r, Option.toList_some, Option.toList_none, List.cons_append, List.nil_append, zrokB, zrokB0, zrokB1, zrokJ0, zrokJ1, and_true, true_and, and_self, if_true, if_false, b2_0, b2_1, b2_not, ite_self]
        rw [sg_145_10, sp_166n hU t2 v.1 v.2 r1 r2 l1 l2 w]
        simp only [zk_l, zk_r, Option.toList_some, Option.toList_none, List.cons_append, List.nil_append, zrokB, zrokB0, zrokB1, zrokJ0, zrokJ1, and_true, true_and, and_self, if_true, if_false, b2_0, b2_1, b2_not, ite_self]
      · rw [sg_245_0]
        simp (disch := first | assumption | omega) only [jI_cl, jm_n, jz_n, i_lit, i_c0, i_c1, Int.toNat_of_nonneg, Int.toNat_natCast, jrow_same, jrow_ne, jrow_jrow, sset_eq, sset_ne]
        rw [sp_244p (by rw [e355]; exact t2) (by rw [e355]; exact a4') u.1 (by rw [e355]; exact u.2) v.1 (by rw [e355]; exact v.2) r1 r2 l1 l2 (by rw [e355]; exact w)]
        simp only [sset_ss, zk_l, zk_r, Option.toList_some, Option.toList_none, List.cons_append, List.nil_append, zrokB, zrokB0, zrokB1, zrokJ0, zrokJ1, and_true, true_and, and_self, if_true, if_false, b2_0, b2_1, b2_not, ite_self, jI_cl, jm_n, jz_n, i_lit, i_c0, i_c1, Int.toNat_of_nonneg, Int.toNat_natCast, jrow_same, jrow_ne, jrow_jrow, sset_eq, sset_ne]
        rw [sg_245_14, if_neg (by decide), sg_245_35]
  · refine ⟨oE 0, J, 0, jrow J 353 (sset (J 353) 0 1), fun Q => ?_, fun Q => ?_, kp_thr, mt_er 0 0 rfl rfl⟩
    · rw [sg_145_0]
      by_cases u : 0 ≤ p ∧ p < J 355 6
      · rw [sp_163v u.1 (by omega) (by omega)]
        simp only [zk_l, zk_r, Option.toList_some, Option.toList_none, List.cons_append, List.nil_append, zrokB, zrokB0, zrokB1, zrokJ0, zrokJ1, and_true, true_and, and_self, if_true, if_false, b2_0, b2_1, b2_not, ite_self]
        rw [sg_145_5, sp_164n a1 a2 (by rw [hu3]; exact fun w => vv ⟨u, w⟩) (by omega) (by omega)]
        simp only [zk_l, zk_r, Option.toList_some, Option.toList_none, List.cons_append, List.nil_append, zrokB, zrokB0, zrokB1, zrokJ0, zrokJ1, and_true, true_and, and_self, if_true, if_false, b2_0, b2_1, b2_not, ite_self]
      · rw [sp_163n p1 p2 (by rw [d2]; exact u) (by omega) (by omega)]
        simp only [zk_l, zk_r, Option.toList_some, Option.toList_none, List.cons_append, List.nil_append, zrokB, zrokB0, zrokB1, zrokJ0, zrokJ1, and_true, true_and, and_self, if_true, if_false, b2_0, b2_1, b2_not, ite_self]
    · rw [sg_245_0]
      simp (disch := first | assumption | omega) only [jI_cl, jm_n, jz_n, i_lit, i_c0, i_c1, Int.toNat_of_nonneg, Int.toNat_natCast, jrow_same, jrow_ne, jrow_jrow, sset_eq, sset_ne]
      rw [sp_244i (by rw [e355]; exact t2) (by rw [e355]; exact a3') (by rw [e355]; exact a4') p1 p2 a1 a2 (by rw [e355]; exact vv)]
      simp only [sset_ss, zk_l, zk_r, Option.toList_some, Option.toList_none, List.cons_append, List.nil_append, zrokB, zrokB0, zrokB1, zrokJ0, zrokJ1, and_true, true_and, and_self, if_true, if_false, b2_0, b2_1, b2_not, ite_self, jI_cl, jm_n, jz_n, i_lit, i_c0, i_c1, Int.toNat_of_nonneg, Int.toNat_natCast, jrow_same, jrow_ne, jrow_jrow, sset_eq, sset_ne]
      rw [sg_245_14, if_neg (by decide), sg_245_35]
/-- masks, place by place -/
theorem mskN_s (p : Nat → Bool) (n : Nat) : mskN p (n + 1) = mskN p n ||| (if p n = true then (1 : Int32) <<< (jI n &&& 31) else 0) := rfl
theorem op_reachableCells (hk : k ≤ 30000) {a : Int} (a1 : -2147483648 ≤ a) (a2 : a < 2147483648) : Op W k [0] 147 303 [.ref 0, .int (jI a), .float 0, .float 0] [.ref 353, .int (jI a), .float 0, .float 0] := by
  refine Op.q (fun J g t => ?_)
  obtain ⟨-, t2, t3, -⟩ := id t
  obtain ⟨a1', a2', a3', a4', a5', a6'⟩ := t3.1
  obtain ⟨b1, b2, b3, b4, b5, b6, b7, b8, b9, b10, b11, b12⟩ := t2.1
  obtain ⟨-, hS, hU, -⟩ := id g
  obtain ⟨d1, d2, d3, hpl, hq, hc, ho⟩ := id hS
  have hcx := GC_cx g t hk
  have hu3 := hU.2.1
  by_cases v : 0 ≤ a ∧ a < J 355 4
  · obtain ⟨en, n1, n2, rr1, rr2, w1, w2, c3⟩ := nC_eq t2 v.1 v.2
    obtain ⟨hG, hdr⟩ := ru_ch hU t2 v.1 v.2
    have hcb : zChb (5 + 19 + a.toNat) := zStp_c zStp_5 (by omega)
    have hsmC := ok_smC t3.2.2.2.2.2.1 t3.2.2.2.1 a4' v.1 c3
    obtain ⟨x', y1, y2⟩ := sp_233w (W := W) (J := jrow J 353 (sset (J 353) 0 0)) (own := -1) (c := a) (by rw [e355]; exact t2) v.1 (by rw [e355]; exact v.2) (by rw [e355]; exact hsmC) (by decide) (by decide)
    rw [e355] at y1
    refine ⟨oI (mk (nC (J 355) a) (fun j => decide (wayS (J 355) a (-1) j ≠ -1))).toInt, J, (mk (nC (J 355) a) (fun j => decide (wayS (J 355) a (-1) j ≠ -1))).toInt, jrow (jrow J 353 (sset (J 353) 0 0)) 358 x', fun Q => ?_, fun Q => ?_, kp_thr2, Or.inl ⟨rfl, by rw [jrow_ne (by decide), jrow_same, sset_eq rfl]⟩⟩
    · rw [sg_147_0, sp_164v v.1 (by omega) (by omega)]
      simp only [zk_l, zk_r, Option.toList_some, Option.toList_none, List.cons_append, List.nil_append, zrokB, zrokB0, zrokB1, zrokJ0, zrokJ1, and_true, true_and, and_self, if_true, if_false, b2_0, b2_1, b2_not, ite_self]
      rw [sg_147_5, sp_53 zStp_5 v.1 c3]
      simp only [zk_l, zk_r, Option.toList_some, Option.toList_none, List.cons_append, List.nil_append, zrokB, zrokB0, zrokB1, zrokJ0, zrokJ1, and_true, true_and, and_self, if_true, if_false, b2_0, b2_1, b2_not, ite_self]
      rw [sg_147_13 (hqt0 := hcb), sp_77 hcx v.1 v.2]
      simp only [zk_l, zk_r, Option.toList_some, Option.toList_none, List.cons_append, List.nil_append, zrokB, zrokB0, zrokB1, zrokJ0, zrokJ1, and_true, true_and, and_self, if_true, if_false, b2_0, b2_1, b2_not, ite_self]
      rw [sg_147_22 (hqx2 := hcb), jm_l, hdr, mk_and (by omega), sp_4 hcb hG]
      simp only [zk_l, zk_r, Option.toList_some, Option.toList_none, List.cons_append, List.nil_append, zrokB, zrokB0, zrokB1, zrokJ0, zrokJ1, and_true, true_and, and_self, if_true, if_false, b2_0, b2_1, b2_not, ite_self]
      rw [sg_147_34 (hqx2 := hcb), oI_x]
      rw [mk_congr (n := nC (J 355) a) (F := fun j => decide (wayS (J 355) a (-1) j ≠ -1)) (fun j j0 j1 => by
        have := flo_wl (adj := nb (gC (J 355) a)) (n := nC (J 355) a) n2 (src := drs (J 355) a) (op := frB (J 355) a) j0 j1
        refine this.trans ?_
        have e9 : wl (nb (gC (J 355) a)) (nC (J 355) a) (drs (J 355) a) (frB (J 355) a) j = wayS (J 355) a (-1) j := wl_cg (fun i i0 i1 => ⟨rfl, by unfold frB opn; rw [Bool.or_self]⟩) j0 j1
        rw [e9])]
    · rw [sg_303_0]
      simp (disch := first | assumption | omega) only [jI_cl, jm_n, jz_n, i_lit, i_c0, i_c1, Int.toNat_of_nonneg, Int.toNat_natCast, jrow_same, jrow_ne, jrow_jrow, sset_eq, sset_ne]
      rw [sp_215v v.1 (by rw [e355]; exact v.2) (by rw [e355]; exact b8)]
      simp only [zk_l, zk_r, Option.toList_some, Option.toList_none, List.cons_append, List.nil_append, zrokB, zrokB0, zrokB1, zrokJ0, zrokJ1, and_true, true_and, and_self, if_true, if_false, b2_0, b2_1, b2_not, ite_self]
      rw [sg_303_11, sp_178t]
      simp only [zk_l, zk_r, Option.toList_some, Option.toList_none, List.cons_append, List.nil_append, zrokB, zrokB0, zrokB1, zrokJ0, zrokJ1, and_true, true_and, and_self, if_true, if_false, b2_0, b2_1, b2_not, ite_self]
      rw [sg_303_15, if_pos (by decide), y2]
      simp only [zk_l, zk_r, Option.toList_some, Option.toList_none, List.cons_append, List.nil_append, zrokB, zrokB0, zrokB1, zrokJ0, zrokJ1, and_true, true_and, and_self, if_true, if_false, b2_0, b2_1, b2_not, ite_self]
      rw [sg_303_27, oI_x]
      have e9 : jrow (jrow J 353 (sset (J 353) 0 0)) 358 x' 355 = J 355 := by rw [jrow_ne (by decide), e355]
      have e8 : jrow (jrow J 353 (sset (J 353) 0 0)) 358 x' 358 = x' := jrow_same
      have h225 : ∀ Q : zO → zI → Prop, wz W 225 0 [.ref 353, .int (jI a)] [] (jm (jrow (jrow J 353 (sset (J 353) 0 0)) 358 x')) Q = Q (oI (nC (J 355) a)) (jm (jrow (jrow J 353 (sset (J 353) 0 0)) 358 x')) := fun Q => by
        rw [sp_225k (J := jrow (jrow J 353 (sset (J 353) 0 0)) 358 x') (by rw [e9]; exact t2) v.1 (by rw [e9]; exact v.2), e9]
      have key := zloop (f := fun i => wz W 303 31 [.ref 353, .int (jI a), .int (mskN (fun j => decide (wayS (J 355) a (-1) (j : Int) ≠ -1)) i), .int (jI i)] [] (jm (jrow (jrow J 353 (sset (J 353) 0 0)) 358 x')) Q) (nC (J 355) a) (fun i hi => by
        try simp only
        have hw := wayS_bd (J 355) a (-1) i
        have hxi := y1 i (by omega) (by omega)
        rw [sg_303_31, h225]
        simp only [zk_l, zk_r, Option.toList_some, Option.toList_none, List.cons_append, List.nil_append, zrokB, zrokB0, zrokB1, zrokJ0, zrokJ1, and_true, true_and, and_self, if_true, if_false, b2_0, b2_1, b2_not, ite_self]
        rw [sg_303_37]
        simp (disch := first | assumption | omega) only [e8, hxi, zk_l, zk_r, Option.toList_some, Option.toList_none, List.cons_append, List.nil_append, zrokB, zrokB0, zrokB1, zrokJ0, zrokJ1, and_true, true_and, and_self, if_true, if_false, b2_0, b2_1, b2_not, ite_self, Int.add_zero, jI_nat, jI_add, jI_sub, jI_mul, jI_neg, jI_lt, jI_le, jI_eq, jI_lt0, jI_0lt, jI_le0, jI_0le, jI_eq0, jI_in, jI_dv, i_mod, jI_cl, jm_n, jz_n, i_lit, i_c0, i_c1, Int.toNat_of_nonneg, Int.toNat_natCast, jrow_same, jrow_ne, jrow_jrow, sset_eq, sset_ne]
        rw [if_neg (by omega), mskN_s]
        by_cases c : wayS (J 355) a (-1) (i : Int) = -1
        · rw [if_pos c, sg_303_58, jI_add, if_neg (by simp [c])]
          rfl
        · rw [if_neg c, sg_303_58, jI_add, if_pos (by simp [c])]
          rfl)
      refine Eq.trans key ?_
      rw [sg_303_31, h225]
      simp only [zk_l, zk_r, Option.toList_some, Option.toList_none, List.cons_append, List.nil_append, zrokB, zrokB0, zrokB1, zrokJ0, zrokJ1, and_true, true_and, and_self, if_true, if_false, b2_0, b2_1, b2_not, ite_self]
      rw [sg_303_37, if_pos (by rw [jI_le (by omega) (by omega) (by omega) (by omega)]; omega)]
      rfl
  · refine ⟨oE 0, J, 0, jrow J 353 (sset (J 353) 0 1), fun Q => ?_, fun Q => ?_, kp_thr, mt_er 0 0 rfl rfl⟩
    · rw [sg_147_0, sp_164n a1 a2 (by rw [hu3]; exact v) (by omega) (by omega)]
      simp only [zk_l, zk_r, Option.toList_some, Option.toList_none, List.cons_append, List.nil_append, zrokB, zrokB0, zrokB1, zrokJ0, zrokJ1, and_true, true_and, and_self, if_true, if_false, b2_0, b2_1, b2_not, ite_self]
    · rw [sg_303_0]
      simp (disch := first | assumption | omega) only [jI_cl, jm_n, jz_n, i_lit, i_c0, i_c1, Int.toNat_of_nonneg, Int.toNat_natCast, jrow_same, jrow_ne, jrow_jrow, sset_eq, sset_ne]
      rw [sp_215n a1 a2 (by rw [e355]; exact v) (by rw [e355]; exact b7) (by rw [e355]; exact b8)]
      simp only [zk_l, zk_r, Option.toList_some, Option.toList_none, List.cons_append, List.nil_append, zrokB, zrokB0, zrokB1, zrokJ0, zrokJ1, and_true, true_and, and_self, if_true, if_false, b2_0, b2_1, b2_not, ite_self]
      rw [sg_303_11, sp_178f]
      simp only [sset_ss, zk_l, zk_r, Option.toList_some, Option.toList_none, List.cons_append, List.nil_append, zrokB, zrokB0, zrokB1, zrokJ0, zrokJ1, and_true, true_and, and_self, if_true, if_false, b2_0, b2_1, b2_not, ite_self, jI_cl, jm_n, jz_n, i_lit, i_c0, i_c1, Int.toNat_of_nonneg, Int.toNat_natCast, jrow_same, jrow_ne, jrow_jrow, sset_eq, sset_ne]
      rw [sg_303_15, if_neg (by decide)]
/-- safeFor -/
theorem sp_304 {D : Int} (hK : okK (J 355)) (hD : okD D k (J 355)) {c g : Int} (c0 : 0 ≤ c) (c1 : c < J 355 4) (g0 : 0 ≤ g) (g1 : g < J 355 5) : wz W 304 0 [.ref 353, .int (jI c), .int (jI g), .float 0, .float 0] [] (jm J) Q = Q (.inl (some (.int (mk (nC (J 355) c) (saB (J 355) c g))))) (jm J) := by
  obtain ⟨⟨a1, a2, a3, a4, a5, a6⟩, hT, hV, hP, hW, hL, hQ, hN⟩ := hD
  obtain ⟨en, n1, n2, rr1, rr2, w1, w2, c3⟩ := nC_eq hK c0 c1
  rw [sg_304_0]
  have key := zloop (f := fun i => wz W 304 5 [.ref 353, .int (jI c), .int (jI g), .int (mskN (fun j => saB (J 355) c g (j : Int)) i), .int (jI i)] [] (jm J) Q) (nC (J 355) c) (fun i hi => by
    try simp only
    have hcell := ok_cell hL hP c0 c3 (k := i) (by omega) (by omega)
    rw [sg_304_5, sp_225k hK c0 c1]
    simp only [zk_l, zk_r, Option.toList_some, Option.toList_none, List.cons_append, List.nil_append, zrokB, zrokB0, zrokB1, zrokJ0, zrokJ1, and_true, true_and, and_self, if_true, if_false, b2_0, b2_1, b2_not, ite_self]
    rw [sg_304_12, if_neg (by rw [jI_le (by omega) (by omega) (by omega) (by omega)]; omega), sp_226 (by omega) c0 (by omega)]
    simp only [zk_l, zk_r, Option.toList_some, Option.toList_none, List.cons_append, List.nil_append, zrokB, zrokB0, zrokB1, zrokJ0, zrokJ1, and_true, true_and, and_self, if_true, if_false, b2_0, b2_1, b2_not, ite_self]
    rw [sg_304_23, sp_230 hK hL hP a4 c0 c1 (by omega) (by omega) g0 g1 (by omega) (by omega)]
    simp only [zk_l, zk_r, Option.toList_some, Option.toList_none, List.cons_append, List.nil_append, zrokB, zrokB0, zrokB1, zrokJ0, zrokJ1, and_true, true_and, and_self, if_true, if_false, b2_0, b2_1, b2_not, ite_self]
    rw [sg_304_36, mskN_s]
    simp only [sg_304_46, sg_304_47, jI_add]
    unfold saB frB
    by_cases c : J 355 (400 + 24 * c + (i : Int)) = -1
    · rw [if_pos (by rw [c]), decide_eq_true c, Bool.true_and]
      cases sfB (J 355) _ i g (-1)
      · rw [if_pos (by decide), if_neg (by decide)]; rfl
      · rw [if_neg (by decide), if_pos rfl]; rfl
    · rw [if_neg (by rw [jI_eq (by omega) (by omega) (by omega) (by omega)]; exact c), decide_eq_false c, Bool.false_and, if_neg (by decide)]
      rfl)
  refine Eq.trans key ?_
  rw [sg_304_5, sp_225k hK c0 c1]
  simp only [zk_l, zk_r, Option.toList_some, Option.toList_none, List.cons_append, List.nil_append, zrokB, zrokB0, zrokB1, zrokJ0, zrokJ1, and_true, true_and, and_self, if_true, if_false, b2_0, b2_1, b2_not, ite_self]
  rw [sg_304_12, if_pos (by rw [jI_le (by omega) (by omega) (by omega) (by omega)]; omega)]
  rfl
theorem op_safeCells (hk : k ≤ 30000) {a b : Int} (a1 : -2147483648 ≤ a) (a2 : a < 2147483648) (x1 : -2147483648 ≤ b) (x2 : b < 2147483648) : Op W k [0] 148 305 [.ref 0, .int (jI a), .int (jI b)] [.ref 353, .int (jI a), .int (jI b)] := by
  refine Op.q (fun J g t => ?_)
  obtain ⟨-, t2, t3, -⟩ := id t
  obtain ⟨a1', a2', a3', a4', a5', a6'⟩ := t3.1
  obtain ⟨b1, b2, b3, b4, b5, b6, b7, b8, b9, b10, b11, b12⟩ := t2.1
  obtain ⟨-, hS, hU, -⟩ := id g
  obtain ⟨d1, d2, d3, hpl, hq, hc, ho⟩ := id hS
  have hcx := GC_cx g t hk
  have hu3 := hU.2.1
  have hu0 := hU.1
  have hbadr : ∀ Q : zO → zI → Prop, wz W 305 27 [.ref 353, .int (jI a), .int (jI b)] [.int (jI 0), .ref 353] (jm (jrow J 353 (sset (J 353) 0 0))) Q = Q (oI 0) (jm (jrow J 353 (sset (J 353) 0 1))) := by
    intro Q
    rw [sg_305_27]
    have h178 := fun Q => sp_178f (W := W) (J := jrow J 353 (sset (J 353) 0 0)) (Q := Q) 1
    simp only [sset_ss, jI_cl, jm_n, jz_n, i_lit, i_c0, i_c1, Int.toNat_of_nonneg, Int.toNat_natCast, jrow_same, jrow_ne, jrow_jrow, sset_eq, sset_ne] at h178
    refine Eq.trans (h178 _) ?_
    simp only [zk_l, zk_r, Option.toList_some, Option.toList_none, List.cons_append, List.nil_append, zrokB, zrokB0, zrokB1, zrokJ0, zrokJ1, and_true, true_and, and_self, if_true, if_false, b2_0, b2_1, b2_not, ite_self]
    rw [sg_305_31, if_neg (by decide), sg_305_44]
  by_cases v : 0 ≤ a ∧ a < J 355 4
  · by_cases w : 0 ≤ b ∧ b < J 355 5
    · refine ⟨oI (mk (nC (J 355) a) (saB (J 355) a b)).toInt, J, (mk (nC (J 355) a) (saB (J 355) a b)).toInt, jrow J 353 (sset (J 353) 0 0), fun Q => ?_, fun Q => ?_, kp_thr, mt_ok⟩
      · rw [sg_148_0, sp_164v v.1 (by omega) (by omega)]
        simp only [zk_l, zk_r, Option.toList_some, Option.toList_none, List.cons_append, List.nil_append, zrokB, zrokB0, zrokB1, zrokJ0, zrokJ1, and_true, true_and, and_self, if_true, if_false, b2_0, b2_1, b2_not, ite_self]
        rw [sg_148_5, sp_162v w.1 (by omega) (by omega)]
        simp only [zk_l, zk_r, Option.toList_some, Option.toList_none, List.cons_append, List.nil_append, zrokB, zrokB0, zrokB1, zrokJ0, zrokJ1, and_true, true_and, and_self, if_true, if_false, b2_0, b2_1, b2_not, ite_self]
        rw [sg_148_10, sp_78 hcx v.1 v.2 w.1 w.2]
        simp only [zk_l, zk_r, Option.toList_some, Option.toList_none, List.cons_append, List.nil_append, zrokB, zrokB0, zrokB1, zrokJ0, zrokJ1, and_true, true_and, and_self, if_true, if_false, b2_0, b2_1, b2_not, ite_self]
        rw [sg_148_19, oI_x]
      · rw [sg_305_0]
        simp (disch := first | assumption | omega) only [jI_cl, jm_n, jz_n, i_lit, i_c0, i_c1, Int.toNat_of_nonneg, Int.toNat_natCast, jrow_same, jrow_ne, jrow_jrow, sset_eq, sset_ne]
        rw [sp_215v v.1 (by rw [e355]; exact v.2) (by rw [e355]; exact b8)]
        simp only [zk_l, zk_r, Option.toList_some, Option.toList_none, List.cons_append, List.nil_append, zrokB, zrokB0, zrokB1, zrokJ0, zrokJ1, and_true, true_and, and_self, if_true, if_false, b2_0, b2_1, b2_not, ite_self]
        rw [sg_305_11, if_neg (by decide), sp_216v w.1 (by rw [e355]; exact w.2) (by rw [e355]; exact b10)]
        simp only [zk_l, zk_r, Option.toList_some, Option.toList_none, List.cons_append, List.nil_append, zrokB, zrokB0, zrokB1, zrokJ0, zrokJ1, and_true, true_and, and_self, if_true, if_false, b2_0, b2_1, b2_not, ite_self]
        rw [sg_305_19, if_neg (by decide), sg_305_27]
        refine Eq.trans (sp_178t (W := W) 1) ?_
        simp only [zk_l, zk_r, Option.toList_some, Option.toList_none, List.cons_append, List.nil_append, zrokB, zrokB0, zrokB1, zrokJ0, zrokJ1, and_true, true_and, and_self, if_true, if_false, b2_0, b2_1, b2_not, ite_self]
        rw [sg_305_31, if_pos (by decide), sp_304 (D := 365) (k := k) (by rw [e355]; exact t2) (by rw [e355]; exact t3) v.1 (by rw [e355]; exact v.2) w.1 (by rw [e355]; exact w.2), e355]
        simp only [zk_l, zk_r, Option.toList_some, Option.toList_none, List.cons_append, List.nil_append, zrokB, zrokB0, zrokB1, zrokJ0, zrokJ1, and_true, true_and, and_self, if_true, if_false, b2_0, b2_1, b2_not, ite_self]
        rw [sg_305_44, oI_x]
    · refine ⟨oE 0, J, 0, jrow J 353 (sset (J 353) 0 1), fun Q => ?_, fun Q => ?_, kp_thr, mt_er 0 0 rfl rfl⟩
      · rw [sg_148_0, sp_164v v.1 (by omega) (by omega)]
        simp only [zk_l, zk_r, Option.toList_some, Option.toList_none, List.cons_append, List.nil_append, zrokB, zrokB0, zrokB1, zrokJ0, zrokJ1, and_true, true_and, and_self, if_true, if_false, b2_0, b2_1, b2_not, ite_self]
        rw [sg_148_5, sp_162n x1 x2 (by rw [hu0]; exact w) (by omega) (by omega)]
        simp only [zk_l, zk_r, Option.toList_some, Option.toList_none, List.cons_append, List.nil_append, zrokB, zrokB0, zrokB1, zrokJ0, zrokJ1, and_true, true_and, and_self, if_true, if_false, b2_0, b2_1, b2_not, ite_self]
      · rw [sg_305_0]
        simp (disch := first | assumption | omega) only [jI_cl, jm_n, jz_n, i_lit, i_c0, i_c1, Int.toNat_of_nonneg, Int.toNat_natCast, jrow_same, jrow_ne, jrow_jrow, sset_eq, sset_ne]
        rw [sp_215v v.1 (by rw [e355]; exact v.2) (by rw [e355]; exact b8)]
        simp only [zk_l, zk_r, Option.toList_some, Option.toList_none, List.cons_append, List.nil_append, zrokB, zrokB0, zrokB1, zrokJ0, zrokJ1, and_true, true_and, and_self, if_true, if_false, b2_0, b2_1, b2_not, ite_self]
        rw [sg_305_11, if_neg (by decide), sp_216n x1 x2 (by rw [e355]; exact w) (by rw [e355]; exact b9) (by rw [e355]; exact b10)]
        simp only [zk_l, zk_r, Option.toList_some, Option.toList_none, List.cons_append, List.nil_append, zrokB, zrokB0, zrokB1, zrokJ0, zrokJ1, and_true, true_and, and_self, if_true, if_false, b2_0, b2_1, b2_not, ite_self]
        rw [sg_305_19, if_pos (by decide), sg_305_26, hbadr]
  · refine ⟨oE 0, J, 0, jrow J 353 (sset (J 353) 0 1), fun Q => ?_, fun Q => ?_, kp_thr, mt_er 0 0 rfl rfl⟩
    · rw [sg_148_0, sp_164n a1 a2 (by rw [hu3]; exact v) (by omega) (by omega)]
      simp only [zk_l, zk_r, Option.toList_some, Option.toList_none, List.cons_append, List.nil_append, zrokB, zrokB0, zrokB1, zrokJ0, zrokJ1, and_true, true_and, and_self, if_true, if_false, b2_0, b2_1, b2_not, ite_self]
    · rw [sg_305_0]
      simp (disch := first | assumption | omega) only [jI_cl, jm_n, jz_n, i_lit, i_c0, i_c1, Int.toNat_of_nonneg, Int.toNat_natCast, jrow_same, jrow_ne, jrow_jrow, sset_eq, sset_ne]
      rw [sp_215n a1 a2 (by rw [e355]; exact v) (by rw [e355]; exact b7) (by rw [e355]; exact b8)]
      simp only [zk_l, zk_r, Option.toList_some, Option.toList_none, List.cons_append, List.nil_append, zrokB, zrokB0, zrokB1, zrokJ0, zrokJ1, and_true, true_and, and_self, if_true, if_false, b2_0, b2_1, b2_not, ite_self]
      rw [sg_305_11, if_pos (by decide), sg_305_26, hbadr]
end
