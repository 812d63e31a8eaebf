/-! ===== store, retrieve, shift, advance ===== -/
section
variable {W : zW} {k : Int}
theorem op_store (hk : k ≤ 30000) {p a r l : Int} (p1 : -2147483648 ≤ p) (p2 : p < 2147483648) (a1 : -2147483648 ≤ a) (a2 : a < 2147483648) (r1 : -2147483648 ≤ r) (r2 : r < 2147483648) (l1 : -2147483648 ≤ l) (l2 : l < 2147483648) : Op W k [0, 1, 2] 104 246 [.ref 0, .int (jI p), .int (jI a), .int (jI r), .int (jI l), .float 0, .float 0] [.ref 353, .int (jI p), .int (jI a), .int (jI r), .int (jI l), .float 0, .float 0] := by
  intro J g t
  obtain ⟨-, t2, t3, -⟩ := id t
  obtain ⟨a1', a2', a3', a4', a5', a6'⟩ := t3.1
  obtain ⟨b1, b2x, b3, b4, b5, b6, b7, b8, b9, b10, b11, b12⟩ := t2.1
  obtain ⟨-, hS, hU, -⟩ := id g
  obtain ⟨d1, d2, d3, hpl, hq, hc, ho⟩ := id hS
  have hcx := GC_cx g t hk
  have hu3 := hU.2.1
  by_cases vv : (0 ≤ p ∧ p < J 355 6) ∧ (0 ≤ a ∧ a < J 355 4)
  · obtain ⟨u, v⟩ := vv
    obtain ⟨en, n1, n2, rr1, rr2, w1, w2, c3⟩ := nC_eq t2 v.1 v.2
    by_cases w : 0 ≤ r ∧ r < gR (J 355) a ∧ 0 ≤ l ∧ l < gC (J 355) a
    · have hcb := cell_bd w.1 w.2.1 w.2.2.1 w.2.2.2 w1 w2
      rw [Int.mul_comm r] at hcb
      have hsmC := ok_smC t3.2.2.2.2.2.1 t3.2.2.2.1 a4' v.1 c3
      have hw9 := wayS_bd (J 355) a (-1) (gC (J 355) a * r + l)
      -- the reference, till the problem is known
      have href : ∀ (J2 : zJ), J2 355 = J 355 → ∃ f, ∀ Q : zO → zI → Prop, wz W 246 0 [.ref 353, .int (jI p), .int (jI a), .int (jI r), .int (jI l), .float 0, .float 0] [] (jm J2) Q = wz W 178 0 [.ref 353, .int (b2 (decide (prb (J 355) p a (gC (J 355) a * r + l) = 0))), .int (jI 3)] [] (jm (jrow (jrow J2 353 (sset (J2 353) 0 0)) 358 f)) (zk Q (fun v I1 => wz W 246 44 [.ref 353, .int (jI p), .int (jI a), .int (jI r), .int (jI l), .float 0, .float 0] (v.toList ++ []) I1 Q)) := by
        intro J2 e55
        have e9 : ∀ f, jrow J2 353 f 355 = J 355 := fun f => e355.trans e55
        obtain ⟨f, -, y2⟩ := sp_243 (W := W) (J := jrow J2 353 (sset (J2 353) 0 0)) (D := 365) (k := k) (by rw [e9]; exact t2) (by rw [e9]; exact t3) u.1 (by rw [e9]; exact u.2) v.1 (by rw [e9]; exact v.2) hcb.1 (by rw [e9]; omega)
        rw [e9] at y2
        refine ⟨f, fun Q => ?_⟩
        have hpb : 0 ≤ prb (J 355) p a (gC (J 355) a * r + l) ∧ prb (J 355) p a (gC (J 355) a * r + l) ≤ 4 := by
          unfold prb
          split
          · omega
          · split
            · omega
            · split
              · omega
              · split <;> omega
        rw [sg_246_0]
        simp (disch := first | assumption | omega) only [jI_cl, jm_n, jz_n, i_lit, i_c0, i_c1, Int.toNat_of_nonneg, Int.toNat_natCast, jrow_same, jrow_ne, jrow_jrow, sset_eq, sset_ne]
        rw [sp_244v (by rw [e9]; exact t2) (by rw [e9]; exact a4') u.1 (by rw [e9]; exact u.2) v.1 (by rw [e9]; exact v.2) w.1 (by rw [e9]; exact w.2.1) w.2.2.1 (by rw [e9]; exact w.2.2.2)]
        simp only [zk_l, zk_r, Option.toList_some, Option.toList_none, List.cons_append, List.nil_append, zrokB, zrokB0, zrokB1, zrokJ0, zrokJ1, and_true, true_and, and_self, if_true, if_false, b2_0, b2_1, b2_not, ite_self]
        rw [sg_246_14, if_pos (by decide), sp_224 v.1 c3, e9]
        simp only [zk_l, zk_r, Option.toList_some, Option.toList_none, List.cons_append, List.nil_append, zrokB, zrokB0, zrokB1, zrokJ0, zrokJ1, and_true, true_and, and_self, if_true, if_false, b2_0, b2_1, b2_not, ite_self]
        rw [sg_246_29, y2]
        simp only [zk_l, zk_r, Option.toList_some, Option.toList_none, List.cons_append, List.nil_append, zrokB, zrokB0, zrokB1, zrokJ0, zrokJ1, and_true, true_and, and_self, if_true, if_false, b2_0, b2_1, b2_not, ite_self]
        rw [sg_246_32]
        by_cases q : prb (J 355) p a (gC (J 355) a * r + l) = 0
        · rw [if_pos (by rw [q]; rfl), sg_246_40, decide_eq_true q]; rfl
        · rw [if_neg (by rw [jI_eq0 (by omega) (by omega)]; exact q), sg_246_40, decide_eq_false q]; rfl
      have hcls : ∀ Q : zO → zI → Prop, wz W 104 0 [.ref 0, .int (jI p), .int (jI a), .int (jI r), .int (jI l), .float 0, .float 0] [] (jm J) Q = wz W 104 28 [.ref 0, .int (jI p), .int (jI a), .int (jI r), .int (jI l), .int (jI (gC (J 355) a * r + l)), .float 0] [.int (jI (prb (J 355) p a (gC (J 355) a * r + l)))] (jm J) Q := by
        intro Q
        rw [sg_104_0, sp_163v u.1 (by omega) (by omega)]
        simp only [zk_l, zk_r, Option.toList_some, Option.toList_none, List.cons_append, List.nil_append, zrokB, zrokB0, zrokB1, zrokJ0, zrokJ1, and_true, true_and, and_self, if_true, if_false, b2_0, b2_1, b2_not, ite_self]
        rw [sg_104_5, sp_164v v.1 (by omega) (by omega)]
        simp only [zk_l, zk_r, Option.toList_some, Option.toList_none, List.cons_append, List.nil_append, zrokB, zrokB0, zrokB1, zrokJ0, zrokJ1, and_true, true_and, and_self, if_true, if_false, b2_0, b2_1, b2_not, ite_self]
        rw [sg_104_10, sp_166v hU t2 v.1 v.2 w.1 w.2.1 w.2.2.1 w.2.2.2]
        simp only [zk_l, zk_r, Option.toList_some, Option.toList_none, List.cons_append, List.nil_append, zrokB, zrokB0, zrokB1, zrokJ0, zrokJ1, and_true, true_and, and_self, if_true, if_false, b2_0, b2_1, b2_not, ite_self]
        rw [sg_104_18, sp_168 hcx u.1 u.2 v.1 v.2 hcb.1 (by omega)]
        simp only [zk_l, zk_r, Option.toList_some, Option.toList_none, List.cons_append, List.nil_append, zrokB, zrokB0, zrokB1, zrokJ0, zrokJ1, and_true, true_and, and_self, if_true, if_false, b2_0, b2_1, b2_not, ite_self]
      by_cases z : prb (J 355) p a (gC (J 355) a * r + l) = 0
      · have hz : J 355 (72 + 7 * p + 2) = 0 ∧ J 355 (400 + 24 * a + (gC (J 355) a * r + l)) = -1 ∧ wayS (J 355) a (-1) (gC (J 355) a * r + l) ≠ -1 := by
          unfold prb at z
          by_cases z1 : J 355 (72 + 7 * p + 2) ≠ 0
          · rw [if_pos z1] at z; omega
          · rw [if_neg z1] at z
            by_cases z2 : J 355 (400 + 24 * a + (gC (J 355) a * r + l)) ≠ -1
            · rw [if_pos z2] at z; omega
            · rw [if_neg z2] at z
              by_cases z3 : sfB (J 355) a (gC (J 355) a * r + l) (J 355 (72 + 7 * p)) (-1) = false
              · rw [if_pos z3] at z; omega
              · rw [if_neg z3] at z
                by_cases z4 : wayS (J 355) a (-1) (gC (J 355) a * r + l) = -1
                · rw [if_pos z4] at z; omega
                · exact ⟨by omega, by omega, z4⟩
        obtain ⟨ok1, ok2⟩ := store_ok t2 t3 u.1 u.2 hz.1 v.1 v.2 hcb.1 (by omega) hz.2.1
        refine opc g t hk (t' := fStore (J 355) p a (gC (J 355) a * r + l)) (v := wayS (J 355) a (-1) (gC (J 355) a * r + l)) ok1 (okD_mono ok2 (Int.le_refl _) (by omega)) (fun J1 k1 hx1 h348 => ?_) (fun J2 h348 => ?_)
        · obtain ⟨J2, r1, r2, r3⟩ := sp_66 (W := W) hx1 u.1 u.2 hz.1 v.1 v.2 hcb.1 (by omega)
          refine ⟨J2, fun Q => ?_, r2, fun r hr => r3 r (by omega)⟩
          rw [hcls, sg_104_28, z, if_pos (by decide), sp_79 hcx v.1 v.2 hcb.1 (by omega), wayC_free t2 v.1 v.2 hcb.1 (by omega) hz.2.1]
          simp only [zk_l, zk_r, Option.toList_some, Option.toList_none, List.cons_append, List.nil_append, zrokB, zrokB0, zrokB1, zrokJ0, zrokJ1, and_true, true_and, and_self, if_true, if_false, b2_0, b2_1, b2_not, ite_self]
          rw [sg_104_51, k1]
          simp only [zk_l, zk_r, Option.toList_some, Option.toList_none, List.cons_append, List.nil_append, zrokB, zrokB0, zrokB1, zrokJ0, zrokJ1, and_true, true_and, and_self, if_true, if_false, b2_0, b2_1, b2_not, ite_self]
          rw [sg_104_64, r1]
          simp only [zk_l, zk_r, Option.toList_some, Option.toList_none, List.cons_append, List.nil_append, zrokB, zrokB0, zrokB1, zrokJ0, zrokJ1, and_true, true_and, and_self, if_true, if_false, b2_0, b2_1, b2_not, ite_self]
          rw [sg_104_75]
        · have e55 := h348 355 (by decide)
          have e53 := h348 353 (by decide)
          obtain ⟨f, hf⟩ := href J2 e55
          have e9 : jrow (jrow J2 353 (sset (J2 353) 0 0)) 358 f 355 = J 355 := by rw [jrow_ne (by decide)]; exact e355.trans e55
          obtain ⟨x', -, y2⟩ := sp_234 (W := W) (J := jrow (jrow J2 353 (sset (J2 353) 0 0)) 358 f) (own := -1) (c := a) (cell := gC (J 355) a * r + l) (by rw [e9]; exact t2) v.1 (by rw [e9]; exact v.2) (by rw [e9]; exact hsmC) (by decide) (by decide) hcb.1 (by rw [e9]; omega)
          rw [e9, jrow_jrow] at y2
          obtain ⟨J', s1, s2, s3, s4, s5, -⟩ := rec55 (W := W) (th0_2 (th0_1 J2) x' (q := 358) (by decide)) (by rw [e53]; exact t.2.2.2.1.1) (by rw [e53]; exact t.2.2.2.1.2.1)
          rw [e55] at s2
          refine ⟨jrow J' 355 (fStore (J 355) p a (gC (J 355) a * r + l)), fun Q => ?_, s5 _⟩
          rw [hf, decide_eq_true z]
          refine Eq.trans (sp_178t (W := W) 3) ?_
          simp only [zk_l, zk_r, Option.toList_some, Option.toList_none, List.cons_append, List.nil_append, zrokB, zrokB0, zrokB1, zrokJ0, zrokJ1, and_true, true_and, and_self, if_true, if_false, b2_0, b2_1, b2_not, ite_self]
          rw [sg_246_44, if_pos (by decide), sp_224 v.1 c3, e9]
          simp only [zk_l, zk_r, Option.toList_some, Option.toList_none, List.cons_append, List.nil_append, zrokB, zrokB0, zrokB1, zrokJ0, zrokJ1, and_true, true_and, and_self, if_true, if_false, b2_0, b2_1, b2_not, ite_self]
          rw [sg_246_57, y2]
          simp only [zk_l, zk_r, Option.toList_some, Option.toList_none, List.cons_append, List.nil_append, zrokB, zrokB0, zrokB1, zrokJ0, zrokJ1, and_true, true_and, and_self, if_true, if_false, b2_0, b2_1, b2_not, ite_self]
          rw [sg_246_67, s1]
          simp only [zk_l, zk_r, Option.toList_some, Option.toList_none, List.cons_append, List.nil_append, zrokB, zrokB0, zrokB1, zrokJ0, zrokJ1, and_true, true_and, and_self, if_true, if_false, b2_0, b2_1, b2_not, ite_self]
          rw [sg_246_77, sp_239o s2 t3 u.1 u.2 hz.1]
          simp only [zk_l, zk_r, Option.toList_some, Option.toList_none, List.cons_append, List.nil_append, zrokB, zrokB0, zrokB1, zrokJ0, zrokJ1, and_true, true_and, and_self, if_true, if_false, b2_0, b2_1, b2_not, ite_self]
          rw [sg_246_82, sp_241 u.1 (by omega) v.1 c3 hcb.1 (by omega), jrow_same, jrow_jrow]
          simp only [zk_l, zk_r, Option.toList_some, Option.toList_none, List.cons_append, List.nil_append, zrokB, zrokB0, zrokB1, zrokJ0, zrokJ1, and_true, true_and, and_self, if_true, if_false, b2_0, b2_1, b2_not, ite_self]
          rw [sg_246_90, sp_240 v.1 c3, jrow_same, jrow_jrow]
          simp only [zk_l, zk_r, Option.toList_some, Option.toList_none, List.cons_append, List.nil_append, zrokB, zrokB0, zrokB1, zrokJ0, zrokJ1, and_true, true_and, and_self, if_true, if_false, b2_0, b2_1, b2_not, ite_self]
          rw [sg_246_95]
          rfl
      · obtain ⟨f, hf⟩ := href J rfl
        have hpb : 0 ≤ prb (J 355) p a (gC (J 355) a * r + l) ∧ prb (J 355) p a (gC (J 355) a * r + l) ≤ 4 := by
          unfold prb
          split
          · omega
          · split
            · omega
            · split
              · omega
              · split <;> omega
        refine opq g t ⟨oE 2, J, 0, jrow (jrow (jrow J 353 (sset (J 353) 0 0)) 358 f) 353 (sset (jrow (jrow J 353 (sset (J 353) 0 0)) 358 f 353) 0 3), fun Q => ?_, fun Q => ?_, kp_trans kp_thr2 kp_thr, mt_er 2 2 rfl rfl⟩
        · rw [hcls, sg_104_28, if_neg (by rw [jI_eq0 (by omega) (by omega)]; exact z)]
        · rw [hf, decide_eq_false z]
          refine Eq.trans (sp_178f (W := W) 3) ?_
          simp only [zk_l, zk_r, Option.toList_some, Option.toList_none, List.cons_append, List.nil_append, zrokB, zrokB0, zrokB1, zrokJ0, zrokJ1, and_true, true_and, and_self, if_true, if_false, b2_0, b2_1, b2_not, ite_self]
          rw [sg_246_44, if_neg (by decide), sg_246_47]
    · refine opq g t ⟨oE 1, J, 0, jrow J 353 (sset (J 353) 0 2), fun Q => ?_, fun Q => ?_, kp_thr, mt_er 1 1 rfl rfl⟩
      · rw [sg_104_0, sp_163v u.1 (by omega) (by omega)]
        simp only [zk_l, zk_r, Option.toList_some, Option.toList_none, List.cons_append, List.nil_append, zrokB, zrokB0, zrokB1, zrokJ0, zrokJ1, and_true, true_and, and_self, if_true, if_false, b2_0, b2_1, b2_not, ite_self]
        rw [sg_104_5, sp_164v v.1 (by omega) (by omega)]
        simp only [zk_l, zk_r, Option.toList_some, Option.toList_none, List.cons_append, List.nil_append, zrokB, zrokB0, zrokB1, zrokJ0, zrokJ1, and_true, true_and, and_self, if_true, if_false, b2_0, b2_1, b2_not, ite_self]
        rw [sg_104_10, sp_166n hU t2 v.1 v.2 r1 r2 l1 l2 w]
        simp only [zk_l, zk_r, Option.toList_some, Option.toList_none, List.cons_append, List.nil_append, zrokB, zrokB0, zrokB1, zrokJ0, zrokJ1, and_true, true_and, and_self, if_true, if_false, b2_0, b2_1, b2_not, ite_self]
      · rw [sg_246_0]
        simp (disch := first | assumption | omega) only [jI_cl, jm_n, jz_n, i_lit, i_c0, i_c1, Int.toNat_of_nonneg, Int.toNat_natCast, jrow_same, jrow_ne, jrow_jrow, sset_eq, sset_ne]
        rw [sp_244p (by rw [e355]; exact t2) (by rw [e355]; exact a4') u.1 (by rw [e355]; exact u.2) v.1 (by rw [e355]; exact v.2) r1 r2 l1 l2 (by rw [e355]; exact w)]
        simp only [sset_ss, zk_l, zk_r, Option.toList_some, Option.toList_none, List.cons_append, List.nil_append, zrokB, zrokB0, zrokB1, zrokJ0, zrokJ1, and_true, true_and, and_self, if_true, if_false, b2_0, b2_1, b2_not, ite_self, jI_cl, jm_n, jz_n, i_lit, i_c0, i_c1, Int.toNat_of_nonneg, Int.toNat_natCast, jrow_same, jrow_ne, jrow_jrow, sset_eq, sset_ne]
        rw [sg_246_14, if_neg (by decide), sg_246_47]
  · refine opq g t ⟨oE 0, J, 0, jrow J 353 (sset (J 353) 0 1), fun Q => ?_, fun Q => ?_, kp_thr, mt_er 0 0 rfl rfl⟩
    · rw [sg_104_0]
      by_cases u : 0 ≤ p ∧ p < J 355 6
      · rw [sp_163v u.1 (by omega) (by omega)]
        simp only [zk_l, zk_r, Option.toList_some, Option.toList_none, List.cons_append, List.nil_append, zrokB, zrokB0, zrokB1, zrokJ0, zrokJ1, and_true, true_and, and_self, if_true, if_false, b2_0, b2_1, b2_not, ite_self]
        rw [sg_104_5, sp_164n a1 a2 (by rw [hu3]; exact fun w => vv ⟨u, w⟩) (by omega) (by omega)]
        simp only [zk_l, zk_r, Option.toList_some, Option.toList_none, List.cons_append, List.nil_append, zrokB, zrokB0, zrokB1, zrokJ0, zrokJ1, and_true, true_and, and_self, if_true, if_false, b2_0, b2_1, b2_not, ite_self]
      · rw [sp_163n p1 p2 (by rw [d2]; exact u) (by omega) (by omega)]
        simp only [zk_l, zk_r, Option.toList_some, Option.toList_none, List.cons_append, List.nil_append, zrokB, zrokB0, zrokB1, zrokJ0, zrokJ1, and_true, true_and, and_self, if_true, if_false, b2_0, b2_1, b2_not, ite_self]
    · rw [sg_246_0]
      simp (disch := first | assumption | omega) only [jI_cl, jm_n, jz_n, i_lit, i_c0, i_c1, Int.toNat_of_nonneg, Int.toNat_natCast, jrow_same, jrow_ne, jrow_jrow, sset_eq, sset_ne]
      rw [sp_244i (by rw [e355]; exact t2) (by rw [e355]; exact a3') (by rw [e355]; exact a4') p1 p2 a1 a2 (by rw [e355]; exact vv)]
      simp only [sset_ss, zk_l, zk_r, Option.toList_some, Option.toList_none, List.cons_append, List.nil_append, zrokB, zrokB0, zrokB1, zrokJ0, zrokJ1, and_true, true_and, and_self, if_true, if_false, b2_0, b2_1, b2_not, ite_self, jI_cl, jm_n, jz_n, i_lit, i_c0, i_c1, Int.toNat_of_nonneg, Int.toNat_natCast, jrow_same, jrow_ne, jrow_jrow, sset_eq, sset_ne]
      rw [sg_246_14, if_neg (by decide), sg_246_47]
/-- the place of a stored pallet -/
theorem st_wh {s : Int → Int} (hK : okK s) (hW : okW s) {p : Int} (p0 : 0 ≤ p) (p1 : p < s 6) (hp : s (72 + 7 * p + 2) = 1) : 0 ≤ s (72 + 7 * p + 3) ∧ s (72 + 7 * p + 3) / 24 < s 4 ∧ s (72 + 7 * p + 3) % 24 < nC s (s (72 + 7 * p + 3) / 24) ∧ s (400 + s (72 + 7 * p + 3)) = p := by
  rcases okW_or hW hK p0 p1 with h | ⟨h1, h2, h3, h4, -⟩
  · have := ((hW p p0 p1).1 hp).1; omega
  · exact ⟨h1, h2, h3, h4⟩
theorem op_retrieve (hk : k ≤ 30000) {p : Int} (p1 : -2147483648 ≤ p) (p2 : p < 2147483648) : Op W k [0, 2] 105 247 [.ref 0, .int (jI p), .float 0] [.ref 353, .int (jI p), .float 0] := by
  intro J g t
  obtain ⟨-, t2, t3, -⟩ := id t
  obtain ⟨a1', a2', a3', a4', a5', a6'⟩ := t3.1
  obtain ⟨b1, b2x, b3, b4, b5, b6, b7, b8, b9, b10, b11, b12⟩ := t2.1
  obtain ⟨-, hS, hU, -⟩ := id g
  obtain ⟨d1, d2, d3, hpl, hq, hc, ho⟩ := id hS
  have hcx := GC_cx g t hk
  by_cases v : 0 ≤ p ∧ p < J 355 6
  · obtain ⟨-, e2, e3, e4, -⟩ := RS_p hS v.1 v.2
    obtain ⟨q1, q2, q3, q4, q5, q6, -⟩ := t3.2.2.2.1 p v.1 v.2
    have href : ∀ (J2 : zJ), J2 355 = J 355 → ∀ Q : zO → zI → Prop, wz W 247 0 [.ref 353, .int (jI p), .float 0] [] (jm J2) Q = wz W 247 25 [.ref 353, .int (jI p), .float 0] [.int (jI (J 355 (72 + 7 * p + 2))), .ref 353] (jm (jrow J2 353 (sset (J2 353) 0 0))) Q := by
      intro J2 e55 Q
      have e9 : ∀ f, jrow J2 353 f 355 = J 355 := fun f => e355.trans e55
      rw [sg_247_0]
      simp (disch := first | assumption | omega) only [jI_cl, jm_n, jz_n, i_lit, i_c0, i_c1, Int.toNat_of_nonneg, Int.toNat_natCast, jrow_same, jrow_ne, jrow_jrow, sset_eq, sset_ne]
      rw [sp_217v v.1 (by rw [e9]; exact v.2) (by rw [e9]; exact a4')]
      simp only [zk_l, zk_r, Option.toList_some, Option.toList_none, List.cons_append, List.nil_append, zrokB, zrokB0, zrokB1, zrokJ0, zrokJ1, and_true, true_and, and_self, if_true, if_false, b2_0, b2_1, b2_not, ite_self]
      rw [sg_247_11, sp_178t]
      simp only [zk_l, zk_r, Option.toList_some, Option.toList_none, List.cons_append, List.nil_append, zrokB, zrokB0, zrokB1, zrokJ0, zrokJ1, and_true, true_and, and_self, if_true, if_false, b2_0, b2_1, b2_not, ite_self]
      rw [sg_247_15, if_pos (by decide), sp_221 (by omega) v.1 (by omega), e9]
      simp only [zk_l, zk_r, Option.toList_some, Option.toList_none, List.cons_append, List.nil_append, zrokB, zrokB0, zrokB1, zrokJ0, zrokJ1, and_true, true_and, and_self, if_true, if_false, b2_0, b2_1, b2_not, ite_self]
    have hrefn : ∀ (Ja : zJ) (Q : zO → zI → Prop), wz W 247 54 [.ref 353, .int (jI p), .float 0] [.ref 353] (jm Ja) Q = Q (oI 0) (jm (jrow Ja 353 (sset (Ja 353) 0 2))) := by
      intro Ja Q
      rw [sg_247_54, sg_247_55]
      refine Eq.trans (sp_178f (W := W) 2) ?_
      simp only [zk_l, zk_r, Option.toList_some, Option.toList_none, List.cons_append, List.nil_append, zrokB, zrokB0, zrokB1, zrokJ0, zrokJ1, and_true, true_and, and_self, if_true, if_false, b2_0, b2_1, b2_not, ite_self]
      rw [sg_247_59, if_neg (by decide), sg_247_62]
    have hclass : ∀ Q : zO → zI → Prop, wz W 105 0 [.ref 0, .int (jI p), .float 0] [] (jm J) Q = wz W 105 16 [.ref 0, .int (jI p), .float 0] [.int (jI (J 355 (72 + 7 * p + 2)))] (jm J) Q := by
      intro Q
      rw [sg_105_0, sp_163v v.1 (by omega) (by omega)]
      simp only [zk_l, zk_r, Option.toList_some, Option.toList_none, List.cons_append, List.nil_append, zrokB, zrokB0, zrokB1, zrokJ0, zrokJ1, and_true, true_and, and_self, if_true, if_false, b2_0, b2_1, b2_not, ite_self]
      rw [sg_105_5, sp_45 (zStk_r4 zStk_49) v.1 (by omega) (by decide), e2]
      simp only [zk_l, zk_r, Option.toList_some, Option.toList_none, List.cons_append, List.nil_append, zrokB, zrokB0, zrokB1, zrokJ0, zrokJ1, and_true, true_and, and_self, if_true, if_false, b2_0, b2_1, b2_not, ite_self]
    by_cases w : J 355 (72 + 7 * p + 2) = 1
    · obtain ⟨x0, x1, x2, x3⟩ := st_wh t2 t3.2.2.2.2.1 v.1 v.2 w
      have ec : chOf (J 355 (72 + 7 * p + 3)) = J 355 (72 + 7 * p + 3) / 24 := (ch_eq (by omega) (by omega)).mpr rfl
      rw [ec] at e3
      rw [ce_eq x0] at e4
      have hc3 : J 355 (72 + 7 * p + 3) / 24 < 3 := by omega
      by_cases z : J 355 8 < 8
      · have hsmC := ok_smC t3.2.2.2.2.2.1 t3.2.2.2.1 a4' (c := J 355 (72 + 7 * p + 3) / 24) (by omega) hc3
        have hwb := wayS_bd (J 355) (J 355 (72 + 7 * p + 3) / 24) p (J 355 (72 + 7 * p + 3) % 24)
        have hway : ∀ J2 : zJ, J2 355 = J 355 → ∃ x', ∀ Q : zO → zI → Prop, wz W 235 0 [.ref 353, .int (jI p)] [] (jm J2) Q = Q (oI (wayS (J 355) (J 355 (72 + 7 * p + 3) / 24) p (J 355 (72 + 7 * p + 3) % 24))) (jm (jrow J2 358 x')) := by
          intro J2 e55
          obtain ⟨x', -, y2⟩ := sp_235 (W := W) (J := J2) (p := p) (by rw [e55]; exact t2) v.1 (by omega) (by rw [e55]; exact x0) (by rw [e55]; exact x1) (by rw [e55]; exact hsmC) (by rw [e55]; exact x2)
          rw [e55] at y2
          exact ⟨x', y2⟩
        have href2 : ∀ (J2 : zJ), J2 355 = J 355 → ∃ x', ∀ Q : zO → zI → Prop, wz W 247 0 [.ref 353, .int (jI p), .float 0] [] (jm J2) Q = wz W 247 46 [.ref 353, .int (jI p), .float 0] [.int (jI (wayS (J 355) (J 355 (72 + 7 * p + 3) / 24) p (J 355 (72 + 7 * p + 3) % 24))), .ref 353] (jm (jrow (jrow J2 353 (sset (J2 353) 0 0)) 358 x')) Q := by
          intro J2 e55
          have e9 : ∀ f, jrow J2 353 f 355 = J 355 := fun f => e355.trans e55
          obtain ⟨x', hx'⟩ := hway (jrow J2 353 (sset (J2 353) 0 0)) (e9 _)
          refine ⟨x', fun Q => ?_⟩
          rw [href J2 e55, sg_247_25, if_pos (by rw [w])]
          simp (disch := first | assumption | omega) only [e9, zk_l, zk_r, Option.toList_some, Option.toList_none, List.cons_append, List.nil_append, zrokB, zrokB0, zrokB1, zrokJ0, zrokJ1, and_true, true_and, and_self, if_true, if_false, b2_0, b2_1, b2_not, ite_self, Int.add_zero, jI_nat, jI_add, jI_sub, jI_mul, jI_neg, jI_lt, jI_le, jI_eq, jI_lt0, jI_0lt, jI_le0, jI_0le, jI_eq0, jI_in, jI_dv, i_mod, jI_cl, jm_n, jz_n, i_lit, i_c0, i_c1, Int.toNat_of_nonneg, Int.toNat_natCast, jrow_same, jrow_ne, jrow_jrow, sset_eq, sset_ne]
          rw [if_neg (by omega), hx']
          simp only [zk_l, zk_r, Option.toList_some, Option.toList_none, List.cons_append, List.nil_append, zrokB, zrokB0, zrokB1, zrokJ0, zrokJ1, and_true, true_and, and_self, if_true, if_false, b2_0, b2_1, b2_not, ite_self]
        have hclass2 : ∀ Q : zO → zI → Prop, wz W 105 0 [.ref 0, .int (jI p), .float 0] [] (jm J) Q = wz W 105 71 [.ref 0, .int (jI p), .float 0] [.int (jI (wayS (J 355) (J 355 (72 + 7 * p + 3) / 24) p (J 355 (72 + 7 * p + 3) % 24)))] (jm J) Q := by
          intro Q
          rw [hclass, sg_105_16, if_pos (by rw [w])]
          simp (disch := first | assumption | omega) only [d3, jI_cl, jm_n, jz_n, i_lit, i_c0, i_c1, Int.toNat_of_nonneg, Int.toNat_natCast, jrow_same, jrow_ne, jrow_jrow, sset_eq, sset_ne]
          rw [if_pos (by rw [jI_lt (by omega) (by omega) (by omega) (by omega)]; exact z), sp_45 (zStk_r5 zStk_49) v.1 (by omega) (by decide), e3]
          simp only [zk_l, zk_r, Option.toList_some, Option.toList_none, List.cons_append, List.nil_append, zrokB, zrokB0, zrokB1, zrokJ0, zrokJ1, and_true, true_and, and_self, if_true, if_false, b2_0, b2_1, b2_not, ite_self]
          rw [sg_105_57 (hqt0 := zStk_49), sp_45 (zStk_r6 zStk_49) v.1 (by omega) (by decide), e4]
          simp only [zk_l, zk_r, Option.toList_some, Option.toList_none, List.cons_append, List.nil_append, zrokB, zrokB0, zrokB1, zrokJ0, zrokJ1, and_true, true_and, and_self, if_true, if_false, b2_0, b2_1, b2_not, ite_self]
          rw [sg_105_68 (hqt0 := zStk_49), sp_79 hcx (by omega) x1 (by omega) x2, wayC_own t2 t3.2.2.2.2.1 t3.2.2.2.2.2.1 v.1 v.2 w]
          simp only [zk_l, zk_r, Option.toList_some, Option.toList_none, List.cons_append, List.nil_append, zrokB, zrokB0, zrokB1, zrokJ0, zrokJ1, and_true, true_and, and_self, if_true, if_false, b2_0, b2_1, b2_not, ite_self]
        by_cases y : wayS (J 355) (J 355 (72 + 7 * p + 3) / 24) p (J 355 (72 + 7 * p + 3) % 24) = -1
        · obtain ⟨x', hx'⟩ := href2 J rfl
          refine opq g t ⟨oE 2, J, 0, jrow (jrow (jrow J 353 (sset (J 353) 0 0)) 358 x') 353 (sset (jrow (jrow J 353 (sset (J 353) 0 0)) 358 x' 353) 0 2), fun Q => ?_, fun Q => ?_, kp_trans kp_thr2 kp_thr, mt_er 1 2 rfl rfl⟩
          · rw [hclass2, sg_105_71, if_pos (by rw [y])]
          · rw [hx', sg_247_46, if_pos (by rw [y]), hrefn]
        · obtain ⟨ok1, ok2⟩ := retr_ok t2 t3 v.1 v.2 w z
          refine opc g t hk (t' := fRetr (J 355) p) (v := wayS (J 355) (J 355 (72 + 7 * p + 3) / 24) p (J 355 (72 + 7 * p + 3) % 24)) ok1 (okD_mono ok2 (Int.le_refl _) (by omega)) (fun J1 k1 hx1 h348 => ?_) (fun J2 h348 => ?_)
          · have e3' := (RS_p hx1.2.1 v.1 v.2).2.2.1
            rw [ec] at e3'
            have f11 : J1 49 11 = J 355 8 := hx1.2.1.2.2.1
            refine ⟨jrow (jrow (jrow (tkJ J1 49 p (J 355 (72 + 7 * p + 3) / 24)) (49 + 3 + 1) (sset (J1 (49 + 3 + 1)) p 0)) (49 + 17 + 1) (sset (J1 (49 + 17 + 1)) (J 355 8) p)) 49 (sset (J1 49) 11 (J 355 8 + 1)), fun Q => ?_, retr_RS hx1 v.1 v.2 w z, fun r hr => ?_⟩
            · rw [hclass2, sg_105_71, if_neg (by rw [jI_eq (by omega) (by omega) (by omega) (by omega)]; exact y), k1]
              simp only [zk_l, zk_r, Option.toList_some, Option.toList_none, List.cons_append, List.nil_append, zrokB, zrokB0, zrokB1, zrokJ0, zrokJ1, and_true, true_and, and_self, if_true, if_false, b2_0, b2_1, b2_not, ite_self]
              rw [sg_105_98, sp_67 zStk_49 v.1 (by omega) e3' (by omega) hc3]
              simp only [zk_l, zk_r, Option.toList_some, Option.toList_none, List.cons_append, List.nil_append, zrokB, zrokB0, zrokB1, zrokJ0, zrokJ1, and_true, true_and, and_self, if_true, if_false, b2_0, b2_1, b2_not, ite_self]
              rw [sg_105_106, sp_46 (zStk_r4 zStk_49) v.1 (by omega) (by decide)]
              simp only [zk_l, zk_r, Option.toList_some, Option.toList_none, List.cons_append, List.nil_append, zrokB, zrokB0, zrokB1, zrokJ0, zrokJ1, and_true, true_and, and_self, if_true, if_false, b2_0, b2_1, b2_not, ite_self]
              have g1 : tkJ J1 49 p (J 355 (72 + 7 * p + 3) / 24) (49 + 3 + 1) = J1 (49 + 3 + 1) := by unfold tkJ; rw [jrow_ne (by decide), jrow_ne (by decide), jrow_ne (by decide)]
              have g2 : tkJ J1 49 p (J 355 (72 + 7 * p + 3) / 24) 49 = J1 49 := by unfold tkJ; rw [jrow_ne (by decide), jrow_ne (by decide), jrow_ne (by decide)]
              have g3 : tkJ J1 49 p (J 355 (72 + 7 * p + 3) / 24) (49 + 17 + 1) = J1 (49 + 17 + 1) := by unfold tkJ; rw [jrow_ne (by decide), jrow_ne (by decide), jrow_ne (by decide)]
              rw [g1, sg_105_118, sp_64 zStk_49 (by rw [jrow_ne (by decide), g2, f11]; exact a5') (by rw [jrow_ne (by decide), g2, f11]; exact z)]
              simp only [zk_l, zk_r, Option.toList_some, Option.toList_none, List.cons_append, List.nil_append, zrokB, zrokB0, zrokB1, zrokJ0, zrokJ1, and_true, true_and, and_self, if_true, if_false, b2_0, b2_1, b2_not, ite_self]
              rw [sg_105_126, jrow_ne (show 49 ≠ 49 + 3 + 1 by decide), g2, f11, jrow_ne (show 49 + 17 + 1 ≠ 49 + 3 + 1 by decide), g3]
            · unfold tkJ
              simp (disch := first | assumption | omega) only [jrow_ne]
          · have e55 := h348 355 (by decide)
            have e53 := h348 353 (by decide)
            obtain ⟨x', hx'⟩ := href2 J2 e55
            have e9 : jrow (jrow J2 353 (sset (J2 353) 0 0)) 358 x' 355 = J 355 := by rw [jrow_ne (by decide)]; exact e355.trans e55
            obtain ⟨x'', hx''⟩ := hway (jrow (jrow J2 353 (sset (J2 353) 0 0)) 358 x') e9
            rw [jrow_jrow] at hx''
            obtain ⟨J', s1, s2, s3, s4, s5, -⟩ := rec55 (W := W) (th0_2 (th0_1 J2) x'' (q := 358) (by decide)) (by rw [e53]; exact t.2.2.2.1.1) (by rw [e53]; exact t.2.2.2.1.2.1)
            rw [e55] at s2
            refine ⟨jrow J' 355 (fRetr (J 355) p), fun Q => ?_, s5 _⟩
            rw [hx', sg_247_46, if_neg (by rw [jI_eq (by omega) (by omega) (by omega) (by omega)]; exact y), sg_247_55]
            refine Eq.trans (sp_178t (W := W) 2) ?_
            simp only [zk_l, zk_r, Option.toList_some, Option.toList_none, List.cons_append, List.nil_append, zrokB, zrokB0, zrokB1, zrokJ0, zrokJ1, and_true, true_and, and_self, if_true, if_false, b2_0, b2_1, b2_not, ite_self]
            rw [sg_247_59, if_pos (by decide), hx'']
            simp only [zk_l, zk_r, Option.toList_some, Option.toList_none, List.cons_append, List.nil_append, zrokB, zrokB0, zrokB1, zrokJ0, zrokJ1, and_true, true_and, and_self, if_true, if_false, b2_0, b2_1, b2_not, ite_self]
            rw [sg_247_69, s1]
            simp only [zk_l, zk_r, Option.toList_some, Option.toList_none, List.cons_append, List.nil_append, zrokB, zrokB0, zrokB1, zrokJ0, zrokJ1, and_true, true_and, and_self, if_true, if_false, b2_0, b2_1, b2_not, ite_self]
            rw [sg_247_78, sp_221 (by omega) v.1 (by omega), s2]
            simp only [zk_l, zk_r, Option.toList_some, Option.toList_none, List.cons_append, List.nil_append, zrokB, zrokB0, zrokB1, zrokJ0, zrokJ1, and_true, true_and, and_self, if_true, if_false, b2_0, b2_1, b2_not, ite_self]
            rw [sg_247_85]
            simp (disch := first | assumption | omega) only [Int.add_zero, jI_nat, jI_add, jI_sub, jI_mul, jI_neg, jI_lt, jI_le, jI_eq, jI_lt0, jI_0lt, jI_le0, jI_0le, jI_eq0, jI_in, jI_dv, i_mod]
            rw [sp_240 (by omega) hc3, s2]
            simp only [zk_l, zk_r, Option.toList_some, Option.toList_none, List.cons_append, List.nil_append, zrokB, zrokB0, zrokB1, zrokJ0, zrokJ1, and_true, true_and, and_self, if_true, if_false, b2_0, b2_1, b2_not, ite_self]
            have hf1 : fOpen (J 355) (J 355 (72 + 7 * p + 3) / 24) (72 + 7 * p + 3) = J 355 (72 + 7 * p + 3) := by unfold fOpen; exact sset_ne (by omega)
            rw [sg_247_91, sp_242 v.1 (by omega) (by rw [jrow_same, hf1]; exact x0) (by rw [jrow_same, hf1]; omega), jrow_same, jrow_jrow]
            simp only [zk_l, zk_r, Option.toList_some, Option.toList_none, List.cons_append, List.nil_append, zrokB, zrokB0, zrokB1, zrokJ0, zrokJ1, and_true, true_and, and_self, if_true, if_false, b2_0, b2_1, b2_not, ite_self]
            rw [sg_247_96, sp_222 (by omega) v.1 (by omega), jrow_same, jrow_jrow]
            simp only [zk_l, zk_r, Option.toList_some, Option.toList_none, List.cons_append, List.nil_append, zrokB, zrokB0, zrokB1, zrokJ0, zrokJ1, and_true, true_and, and_self, if_true, if_false, b2_0, b2_1, b2_not, ite_self]
            have hf8 : sset (fTake (fOpen (J 355) (J 355 (72 + 7 * p + 3) / 24)) p) (72 + 7 * p + 2) 0 8 = J 355 8 := by
              unfold fTake
              rw [hf1, sset_ne (by omega), sset_ne (by omega), sset_ne (by omega)]
              unfold fOpen
              exact sset_ne (by omega)
            rw [sg_247_103]
            simp (disch := first | assumption | omega) only [hf8, zk_l, zk_r, Option.toList_some, Option.toList_none, List.cons_append, List.nil_append, zrokB, zrokB0, zrokB1, zrokJ0, zrokJ1, and_true, true_and, and_self, if_true, if_false, b2_0, b2_1, b2_not, ite_self, Int.add_zero, jI_nat, jI_add, jI_sub, jI_mul, jI_neg, jI_lt, jI_le, jI_eq, jI_lt0, jI_0lt, jI_le0, jI_0le, jI_eq0, jI_in, jI_dv, i_mod, jI_cl, jm_n, jz_n, i_lit, i_c0, i_c1, Int.toNat_of_nonneg, Int.toNat_natCast, jrow_same, jrow_ne, jrow_jrow, sset_eq, sset_ne]
            have hq : fRetr (J 355) p = sset (sset (sset (fTake (fOpen (J 355) (J 355 (72 + 7 * p + 3) / 24)) p) (72 + 7 * p + 2) 0) (392 + J 355 8) p) 8 (J 355 8 + 1) := by
              show fEnq _ _ = _
              unfold fEnq
              rw [hf8]
            rw [hq]
      · refine opq g t ⟨oE 2, J, 0, jrow J 353 (sset (J 353) 0 2), fun Q => ?_, fun Q => ?_, kp_thr, mt_er 1 2 rfl rfl⟩
        · rw [hclass, sg_105_16, if_pos (by rw [w])]
          simp (disch := first | assumption | omega) only [d3, jI_cl, jm_n, jz_n, i_lit, i_c0, i_c1, Int.toNat_of_nonneg, Int.toNat_natCast, jrow_same, jrow_ne, jrow_jrow, sset_eq, sset_ne]
          rw [if_neg (by rw [jI_lt (by omega) (by omega) (by omega) (by omega)]; exact z), sg_105_32]
        · rw [href J rfl, sg_247_25, if_pos (by rw [w])]
          simp (disch := first | assumption | omega) only [e355, zk_l, zk_r, Option.toList_some, Option.toList_none, List.cons_append, List.nil_append, zrokB, zrokB0, zrokB1, zrokJ0, zrokJ1, and_true, true_and, and_self, if_true, if_false, b2_0, b2_1, b2_not, ite_self, Int.add_zero, jI_nat, jI_add, jI_sub, jI_mul, jI_neg, jI_lt, jI_le, jI_eq, jI_lt0, jI_0lt, jI_le0, jI_0le, jI_eq0, jI_in, jI_dv, i_mod, jI_cl, jm_n, jz_n, i_lit, i_c0, i_c1, Int.toNat_of_nonneg, Int.toNat_natCast, jrow_same, jrow_ne, jrow_jrow, sset_eq, sset_ne]
          rw [if_pos (by omega), hrefn]
          simp only [sset_ss, jI_cl, jm_n, jz_n, i_lit, i_c0, i_c1, Int.toNat_of_nonneg, Int.toNat_natCast, jrow_same, jrow_ne, jrow_jrow, sset_eq, sset_ne]
    · refine opq g t ⟨oE 2, J, 0, jrow J 353 (sset (J 353) 0 2), fun Q => ?_, fun Q => ?_, kp_thr, mt_er 1 2 rfl rfl⟩
      · rw [hclass, sg_105_16, if_neg (by rw [jI_eq (by omega) (by omega) (by omega) (by omega)]; exact w), sg_105_32]
      · rw [href J rfl, sg_247_25, if_neg (by rw [jI_eq (by omega) (by omega) (by omega) (by omega)]; exact w), hrefn]
        simp only [sset_ss, jI_cl, jm_n, jz_n, i_lit, i_c0, i_c1, Int.toNat_of_nonneg, Int.toNat_natCast, jrow_same, jrow_ne, jrow_jrow, sset_eq, sset_ne]
  · refine opq g t ⟨oE 0, J, 0, jrow J 353 (sset (J 353) 0 1), fun Q => ?_, fun Q => ?_, kp_thr, mt_er 0 0 rfl rfl⟩
    · rw [sg_105_0, sp_163n p1 p2 (by rw [d2]; exact v) (by omega) (by omega)]
      simp only [zk_l, zk_r, Option.toList_some, Option.toList_none, List.cons_append, List.nil_append, zrokB, zrokB0, zrokB1, zrokJ0, zrokJ1, and_true, true_and, and_self, if_true, if_false, b2_0, b2_1, b2_not, ite_self]
    · rw [sg_247_0]
      simp (disch := first | assumption | omega) only [jI_cl, jm_n, jz_n, i_lit, i_c0, i_c1, Int.toNat_of_nonneg, Int.toNat_natCast, jrow_same, jrow_ne, jrow_jrow, sset_eq, sset_ne]
      rw [sp_217n p1 p2 (by rw [e355]; exact v) (by rw [e355]; exact a3') (by rw [e355]; exact a4')]
      simp only [zk_l, zk_r, Option.toList_some, Option.toList_none, List.cons_append, List.nil_append, zrokB, zrokB0, zrokB1, zrokJ0, zrokJ1, and_true, true_and, and_self, if_true, if_false, b2_0, b2_1, b2_not, ite_self]
      rw [sg_247_11, sp_178f]
      simp only [sset_ss, zk_l, zk_r, Option.toList_some, Option.toList_none, List.cons_append, List.nil_append, zrokB, zrokB0, zrokB1, zrokJ0, zrokJ1, and_true, true_and, and_self, if_true, if_false, b2_0, b2_1, b2_not, ite_self, jI_cl, jm_n, jz_n, i_lit, i_c0, i_c1, Int.toNat_of_nonneg, Int.toNat_natCast, jrow_same, jrow_ne, jrow_jrow, sset_eq, sset_ne]
      rw [sg_247_15, if_neg (by decide), sg_247_62]
end
