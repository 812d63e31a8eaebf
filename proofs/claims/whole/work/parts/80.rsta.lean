/-! ===== the reference: statements ===== -/
section
variable {W : zW} {J : zJ} {Q : zO → zI → Prop} {f : Int → Int} {n e : Int} {s : Int → Int} {hl hq : Int}
theorem sp_204 (ht : txt (J 354) f n) (hp : PR f n J e) (e0 : 0 ≤ e) (e1 : e ≤ n) (hs : J 356 = s) (h11 : J 353 11 = hl) (h12 : J 353 12 = hq) (hO : okR s hl hq) :
    ∃ J', (∀ Q : zO → zI → Prop, wz W 204 0 [.ref 353, .float 0] [] (jm J) Q = Q oV (jm J')) ∧ fT J J' ∧ rSt f n J' (pCh f n s hl hq e) := by
  have hO' := hO
  obtain ⟨⟨hB, hC, hG, hOo⟩, hN, hL, hh⟩ := hO'
  obtain ⟨x1, x2, x3, x4, x5, x6, x7, x8, x9, x10, x11, x12⟩ := hB
  have hK := hO.1
  have h6a := hL.2.2.2.2.1
  have h6b := hL.2.2.2.2.2.1
  have h86 := hL.2.2.2.1
  have n9 := ht.2.1
  have hS := tqS_b (f := f) e1
  have hE := tqE_b (f := f) e1
  unfold pCh
  have ec : jm J 356 (jI 4).toNatClampNeg = jI (s 4) := by
    rw [jI_cl (by decide) (by decide)]
    show jI (J 356 4) = _
    rw [hs]
  have T0 : ∀ Q : zO → zI → Prop, wz W 204 0 [.ref 353, .float 0] [] (jm J) Q = wz W 203 0 [.ref 353, .int (jI (if s 4 = 3 then 1 else 0))] [] (jm J) (zk Q (fun v I1 => wz W 204 19 [.ref 353, .float 0] (v.toList ++ []) I1 Q)) := by
    intro Q
    rw [sg_204_0, ec, ifE (by omega) (by omega) (by omega) (by omega), jI_in (by decide) (by decide) (by decide)]
    simp only [true_and]
    by_cases c : s 4 = 3
    · rw [if_pos c, if_pos c, sg_204_16]
    · rw [if_neg c, if_neg c, sg_204_16]
  by_cases hm : s 4 = 3
  · refine ⟨jrow J 353 (sset (J 353) 7 (tqS f n e)), fun Q => ?_, fT_7, ?_⟩
    · rw [T0, if_pos hm, sp_203f hp]
      simp only [zk_l, zk_r, Option.toList_some, Option.toList_none, List.cons_append, List.nil_append, zrokB, zrokB0, zrokB1, zrokJ0, zrokJ1, and_true, true_and, and_self, if_true, if_false, b2_0, b2_1, b2_not, ite_self]
      rw [sg_204_19, if_pos (by decide)]
    · rw [if_pos hm]
      exact row7
  · rw [if_neg hm]
    obtain ⟨J1, r1, f1, pr1⟩ := sp_203t (W := W) ht hp e0 e1
    have ht1 : txt (J1 354) f n := by rw [f1.1 354 (by decide)]; exact ht
    have s1 : J1 356 = s := by rw [f1.1 356 (by decide)]; exact hs
    have T1 : ∀ Q : zO → zI → Prop, wz W 204 0 [.ref 353, .float 0] [] (jm J) Q = wz W 204 19 [.ref 353, .float 0] [.int (jI 1)] (jm J1) Q := by
      intro Q
      rw [T0, if_neg hm, r1]
      simp only [zk_l, zk_r, Option.toList_some, Option.toList_none, List.cons_append, List.nil_append, zrokB, zrokB0, zrokB1, zrokJ0, zrokJ1, and_true, true_and, and_self, if_true, if_false, b2_0, b2_1, b2_not, ite_self]
    obtain ⟨o2, J2, r2, f2, c2⟩ := sp_200g (W := W) (J := J1) (f := f) (n := n) (e := (tqE f n e)) ht1 pr1 (by omega) (by omega) s1 hK
    show ∃ J', _ ∧ _ ∧ rSt f n J' (pB (pNm f n s (tqE f n e)) _)
    have ec1 : jm J1 356 (jI 4).toNatClampNeg = jI (s 4) := by
      rw [jI_cl (by decide) (by decide)]
      show jI (J1 356 4) = _
      rw [s1]
    have T2 : ∀ (v : Int), o2 = oI v → ∀ Q : zO → zI → Prop, wz W 204 0 [.ref 353, .float 0] [] (jm J) Q = wz W 204 47 [.ref 353, .int (jI (12 + 8 * s 4))] [.int (jI v), .int (jI (12 + 8 * s 4)), .ref 356] (jm J2) Q := by
      intro v hv Q
      rw [T1, sg_204_19, if_neg (by decide), ec1, jI_in (by decide) (by decide) (by decide)]
      simp only [true_and]
      rw [r2, hv]
      simp only [zk_l, zk_r, Option.toList_some, Option.toList_none, List.cons_append, List.nil_append, zrokB, zrokB0, zrokB1, zrokJ0, zrokJ1, and_true, true_and, and_self, if_true, if_false, b2_0, b2_1, b2_not, ite_self, jI_mul, jI_add, Int.add_zero]
    cases hq2 : pNm f n s (tqE f n e) with
    | inl p =>
      rw [hq2] at c2
      obtain ⟨ho, p7⟩ := c2
      have hpb := pNm_l (by omega) (by omega) hq2
      obtain ⟨g, hg⟩ := bt204_47 (W := W) (J := J2) (x := 12 + 8 * s 4) (v := 0) (i := 12 + 8 * s 4) (by omega) (by omega) (by omega) (by omega) (by omega) (by omega)
      refine ⟨jrow J2 356 g, fun Q => ?_, fT_t (fT_t (fT_f f1) (fT_f f2)) fT_356, ?_⟩
      · rw [T2 0 ho]
        exact hg Q
      · show jrow J2 356 g 353 7 = p
        rw [jrow_ne (by decide)]
        exact p7
    | inr v =>
      obtain ⟨a2, e2⟩ := v
      have hb2 := pNm_e (by omega) hq2
      rw [hq2] at c2
      obtain ⟨rfl, pr2⟩ := c2
      have q2 : J2 356 = J1 356 := f2.1 356 (by decide)
      let K2 : zJ := jrow J2 356 (sset (J2 356) (12 + 8 * s 4) a2)
      have prk2 : PR f n K2 e2 := PR_356 pr2
      have kk2 : K2 353 = J2 353 := jrow_ne (by decide)
      have htk2 : txt (K2 354) f n := by
        show txt (jrow J2 356 _ 354) f n
        rw [jrow_ne (by decide), f2.1 354 (by decide)]
        exact ht1
      obtain ⟨o3, J3, r3, f3, c3⟩ := sp_191g (W := W) (J := K2) (f := f) (n := n) (e := e2) (lo := 1) (hi := 6) htk2 prk2 (by omega) (by omega) (by omega) (by omega) (by omega) (by omega)
      show ∃ J', _ ∧ _ ∧ rSt f n J' (pB (pNu f n 1 6 e2) _)
      have T3 : ∀ (v : Int), o3 = oI v → ∀ Q : zO → zI → Prop, wz W 204 0 [.ref 353, .float 0] [] (jm J) Q = wz W 204 62 [.ref 353, .int (jI (12 + 8 * s 4))] [.int (jI v), .int (jI (12 + 8 * s 4 + 1)), .ref 356] (jm J3) Q := by
        intro v hv Q
        rw [T2 a2 rfl, sg_204_47 (hqt0 := h_356)]
        simp (disch := first | assumption | omega) only [zk_l, zk_r, Option.toList_some, Option.toList_none, List.cons_append, List.nil_append, zrokB, zrokB0, zrokB1, zrokJ0, zrokJ1, and_true, true_and, and_self, if_true, if_false, b2_0, b2_1, b2_not, ite_self, Int.add_zero, jI_nat, jI_add, jI_sub, jI_mul, jI_neg, jI_lt, jI_le, jI_eq, jI_lt0, jI_0lt, jI_le0, jI_0le, jI_eq0, jI_in, jI_dv, i_mod, jI_cl, jm_n, jz_n, i_lit, i_c0, i_c1, Int.toNat_of_nonneg, Int.toNat_natCast, jrow_same, jrow_ne, jrow_jrow, sset_eq, sset_ne]
        skip
        refine Eq.trans (r3 _) ?_
        rw [hv]
        simp only [zk_l, zk_r, Option.toList_some, Option.toList_none, List.cons_append, List.nil_append, zrokB, zrokB0, zrokB1, zrokJ0, zrokJ1, and_true, true_and, and_self, if_true, if_false, b2_0, b2_1, b2_not, ite_self]
      cases hq3 : pNu f n 1 6 e2 with
      | inl p =>
        rw [hq3] at c3
        obtain ⟨ho, p7⟩ := c3
        have hpb := pSg_p (by omega) (by omega) hq3
        obtain ⟨g, hg⟩ := bt204_62 (W := W) (J := J3) (x := 12 + 8 * s 4) (v := 0) (i := 12 + 8 * s 4 + 1) (by omega) (by omega) (by omega) (by omega) (by omega) (by omega)
        refine ⟨jrow J3 356 g, fun Q => ?_, fT_t (fT_t (fT_t (fT_t (fT_f f1) (fT_f f2)) fT_356) (fT_f f3)) fT_356, ?_⟩
        · rw [T3 0 ho]
          exact hg Q
        · show jrow J3 356 g 353 7 = p
          rw [jrow_ne (by decide)]
          exact p7
      | inr v =>
        obtain ⟨a3, e3⟩ := v
        have hb3 := pSg_e (by omega) hq3
        rw [hq3] at c3
        obtain ⟨rfl, pr3⟩ := c3
        have q3 : J3 356 = K2 356 := f3.1 356 (by decide)
        let K3 : zJ := jrow J3 356 (sset (J3 356) (12 + 8 * s 4 + 1) a3)
        have prk3 : PR f n K3 e3 := PR_356 pr3
        have kk3 : K3 353 = J3 353 := jrow_ne (by decide)
        have htk3 : txt (K3 354) f n := by
          show txt (jrow J3 356 _ 354) f n
          rw [jrow_ne (by decide), f3.1 354 (by decide)]
          exact htk2
        obtain ⟨o4, J4, r4, f4, c4⟩ := sp_191g (W := W) (J := K3) (f := f) (n := n) (e := e3) (lo := 1) (hi := 4) htk3 prk3 (by omega) (by omega) (by omega) (by omega) (by omega) (by omega)
        show ∃ J', _ ∧ _ ∧ rSt f n J' (pB (pNu f n 1 4 e3) _)
        have T4 : ∀ (v : Int), o4 = oI v → ∀ Q : zO → zI → Prop, wz W 204 0 [.ref 353, .float 0] [] (jm J) Q = wz W 204 76 [.ref 353, .int (jI (12 + 8 * s 4))] [.int (jI v), .int (jI (12 + 8 * s 4 + 2)), .ref 356] (jm J4) Q := by
          intro v hv Q
          rw [T3 a3 rfl, sg_204_62 (hqt0 := h_356)]
          simp (disch := first | assumption | omega) only [zk_l, zk_r, Option.toList_some, Option.toList_none, List.cons_append, List.nil_append, zrokB, zrokB0, zrokB1, zrokJ0, zrokJ1, and_true, true_and, and_self, if_true, if_false, b2_0, b2_1, b2_not, ite_self, Int.add_zero, jI_nat, jI_add, jI_sub, jI_mul, jI_neg, jI_lt, jI_le, jI_eq, jI_lt0, jI_0lt, jI_le0, jI_0le, jI_eq0, jI_in, jI_dv, i_mod, jI_cl, jm_n, jz_n, i_lit, i_c0, i_c1, Int.toNat_of_nonneg, Int.toNat_natCast, jrow_same, jrow_ne, jrow_jrow, sset_eq, sset_ne]
          skip
          refine Eq.trans (r4 _) ?_
          rw [hv]
          simp only [zk_l, zk_r, Option.toList_some, Option.toList_none, List.cons_append, List.nil_append, zrokB, zrokB0, zrokB1, zrokJ0, zrokJ1, and_true, true_and, and_self, if_true, if_false, b2_0, b2_1, b2_not, ite_self]
        cases hq4 : pNu f n 1 4 e3 with
        | inl p =>
          rw [hq4] at c4
          obtain ⟨ho, p7⟩ := c4
          have hpb := pSg_p (by omega) (by omega) hq4
          obtain ⟨g, hg⟩ := bt204_76 (W := W) (J := J4) (x := 12 + 8 * s 4) (v := 0) (i := 12 + 8 * s 4 + 2) (by omega) (by omega) (by omega) (by omega) (by omega) (by omega)
          refine ⟨jrow J4 356 g, fun Q => ?_, fT_t (fT_t (fT_t (fT_t (fT_t (fT_t (fT_f f1) (fT_f f2)) fT_356) (fT_f f3)) fT_356) (fT_f f4)) fT_356, ?_⟩
          · rw [T4 0 ho]
            exact hg Q
          · show jrow J4 356 g 353 7 = p
            rw [jrow_ne (by decide)]
            exact p7
        | inr v =>
          obtain ⟨a4, e4⟩ := v
          have hb4 := pSg_e (by omega) hq4
          rw [hq4] at c4
          obtain ⟨rfl, pr4⟩ := c4
          have q4 : J4 356 = K3 356 := f4.1 356 (by decide)
          let K4 : zJ := jrow J4 356 (sset (J4 356) (12 + 8 * s 4 + 2) a4)
          have prk4 : PR f n K4 e4 := PR_356 pr4
          have kk4 : K4 353 = J4 353 := jrow_ne (by decide)
          have htk4 : txt (K4 354) f n := by
            show txt (jrow J4 356 _ 354) f n
            rw [jrow_ne (by decide), f4.1 354 (by decide)]
            exact htk3
          obtain ⟨o5, J5, r5, f5, c5⟩ := sp_192g (W := W) (J := K4) (f := f) (n := n) (e := e4) (lo := (-30)) (hi := 20) htk4 prk4 (by omega) (by omega) (by omega) (by omega) (by omega) (by omega)
          show ∃ J', _ ∧ _ ∧ rSt f n J' (pB (pTe f n (-30) 20 e4) _)
          have T5 : ∀ (v : Int), o5 = oI v → ∀ Q : zO → zI → Prop, wz W 204 0 [.ref 353, .float 0] [] (jm J) Q = wz W 204 92 [.ref 353, .int (jI (12 + 8 * s 4))] [.int (jI v), .int (jI (12 + 8 * s 4 + 3)), .ref 356] (jm J5) Q := by
            intro v hv Q
            rw [T4 a4 rfl, sg_204_76 (hqt0 := h_356)]
            simp (disch := first | assumption | omega) only [zk_l, zk_r, Option.toList_some, Option.toList_none, List.cons_append, List.nil_append, zrokB, zrokB0, zrokB1, zrokJ0, zrokJ1, and_true, true_and, and_self, if_true, if_false, b2_0, b2_1, b2_not, ite_self, Int.add_zero, jI_nat, jI_add, jI_sub, jI_mul, jI_neg, jI_lt, jI_le, jI_eq, jI_lt0, jI_0lt, jI_le0, jI_0le, jI_eq0, jI_in, jI_dv, i_mod, jI_cl, jm_n, jz_n, i_lit, i_c0, i_c1, Int.toNat_of_nonneg, Int.toNat_natCast, jrow_same, jrow_ne, jrow_jrow, sset_eq, sset_ne]
            skip
            refine Eq.trans (r5 _) ?_
            rw [hv]
            simp only [zk_l, zk_r, Option.toList_some, Option.toList_none, List.cons_append, List.nil_append, zrokB, zrokB0, zrokB1, zrokJ0, zrokJ1, and_true, true_and, and_self, if_true, if_false, b2_0, b2_1, b2_not, ite_self]
          cases hq5 : pTe f n (-30) 20 e4 with
          | inl p =>
            rw [hq5] at c5
            obtain ⟨ho, p7⟩ := c5
            have hpb := pTe_p (by omega) (by omega) hq5
            obtain ⟨g, hg⟩ := bt204_92 (W := W) (J := J5) (x := 12 + 8 * s 4) (v := 0) (i := 12 + 8 * s 4 + 3) (by omega) (by omega) (by omega) (by omega)
            refine ⟨jrow J5 356 g, fun Q => ?_, fT_t (fT_t (fT_t (fT_t (fT_t (fT_t (fT_t (fT_t (fT_f f1) (fT_f f2)) fT_356) (fT_f f3)) fT_356) (fT_f f4)) fT_356) (fT_f f5)) fT_356, ?_⟩
            · rw [T5 0 ho]
              exact hg Q
            · show jrow J5 356 g 353 7 = p
              rw [jrow_ne (by decide)]
              exact p7
          | inr v =>
            obtain ⟨a5, e5⟩ := v
            have hb5 := pTe_e (by omega) hq5
            rw [hq5] at c5
            obtain ⟨rfl, pr5⟩ := c5
            have q5 : J5 356 = K4 356 := f5.1 356 (by decide)
            have hq356 : J5 356 = sset (sset (sset s (12 + 8 * s 4) a2) (12 + 8 * s 4 + 1) a3) (12 + 8 * s 4 + 2) a4 := by
              rw [q5]
              show jrow J4 356 _ 356 = _
              rw [jrow_same, q4]
              show sset (jrow J3 356 _ 356) _ _ = _
              rw [jrow_same, q3]
              show sset (sset (jrow J2 356 _ 356) _ _) _ _ = _
              rw [jrow_same, q2, s1]
            let R : Int → Int := sset (sset (sset (sset s (12 + 8 * s 4) a2) (12 + 8 * s 4 + 1) a3) (12 + 8 * s 4 + 2) a4) (12 + 8 * s 4 + 3) a5
            have hR4 : R 4 = s 4 := by
              show sset (sset (sset (sset s (12 + 8 * s 4) a2) (12 + 8 * s 4 + 1) a3) (12 + 8 * s 4 + 2) a4) (12 + 8 * s 4 + 3) a5 4 = _
              rw [sset_ne (by omega), sset_ne (by omega), sset_ne (by omega), sset_ne (by omega)]
            let J6 : zJ := jrow J5 356 R
            have e6 : sset (J5 356) (12 + 8 * s 4 + 3) a5 = R := by
              rw [hq356]
            refine ⟨jrow J5 356 (sset R 4 (s 4 + 1)), fun Q => ?_, fT_t (fT_t (fT_t (fT_t (fT_t (fT_t (fT_t (fT_t (fT_f f1) (fT_f f2)) fT_356) (fT_f f3)) fT_356) (fT_f f4)) fT_356) (fT_f f5)) fT_356, PR_356 pr5, by rw [jrow_same]; rfl, ?_, ?_⟩
            · rw [T5 a5 rfl, sg_204_92 (hqt0 := h_356)]
              simp (disch := first | assumption | omega) only [zk_l, zk_r, Option.toList_some, Option.toList_none, List.cons_append, List.nil_append, zrokB, zrokB0, zrokB1, zrokJ0, zrokJ1, and_true, true_and, and_self, if_true, if_false, b2_0, b2_1, b2_not, ite_self, Int.add_zero, jI_nat, jI_add, jI_sub, jI_mul, jI_neg, jI_lt, jI_le, jI_eq, jI_lt0, jI_0lt, jI_le0, jI_0le, jI_eq0, jI_in, jI_dv, i_mod, jI_cl, jm_n, jz_n, i_lit, i_c0, i_c1, Int.toNat_of_nonneg, Int.toNat_natCast, jrow_same, jrow_ne, jrow_jrow, sset_eq, sset_ne, e6]
              refine (sp_187g (J := J6) (PR_356 pr5).2.2.2.2.2).trans ?_
              simp only [zk_l, zk_r, Option.toList_some, Option.toList_none, List.cons_append, List.nil_append, zrokB, zrokB0, zrokB1, zrokJ0, zrokJ1, and_true, true_and, and_self, if_true, if_false, b2_0, b2_1, b2_not, ite_self]
              rw [sg_204_104 (hqt0 := h_356), if_neg (by decide), sg_204_112 (hqt0 := h_356), hR4]
              show (zvin (jI 4) 472 = true ∧ Q oV (zset (jm J6) 356 (jI 4).toNatClampNeg (jI (s 4) + jI 1))) = _
              rw [jI_in (by decide) (by decide) (by decide), jI_add, jI_cl (by decide) (by decide)]
              simp (disch := first | assumption | omega) only [jz_n, i_lit, true_and]
              have e1 : J6 356 = R := jrow_same
              have e2 : ∀ g, jrow J6 356 g = jrow J5 356 g := fun g => jrow_jrow
              show Q oV (jm (jrow J6 356 (sset (J6 356) 4 _))) = _
              rw [e1, e2]
            · rw [jrow_ne (by decide), f5.2 11 (by decide), kk4, f4.2 11 (by decide), kk3, f3.2 11 (by decide), kk2, f2.2 11 (by decide), f1.2 11 (by decide)]
              exact h11
            · rw [jrow_ne (by decide), f5.2 12 (by decide), kk4, f4.2 12 (by decide), kk3, f3.2 12 (by decide), kk2, f2.2 12 (by decide), f1.2 12 (by decide)]
              exact h12
theorem sp_206 (ht : txt (J 354) f n) (hp : PR f n J e) (e0 : 0 ≤ e) (e1 : e ≤ n) (hs : J 356 = s) (h11 : J 353 11 = hl) (h12 : J 353 12 = hq) (hO : okR s hl hq) :
    ∃ J', (∀ Q : zO → zI → Prop, wz W 206 0 [.ref 353, .float 0] [] (jm J) Q = Q oV (jm J')) ∧ fT J J' ∧ rSt f n J' (pGd f n s hl hq e) := by
  have hO' := hO
  obtain ⟨⟨hB, hC, hG, hOo⟩, hN, hL, hh⟩ := hO'
  obtain ⟨x1, x2, x3, x4, x5, x6, x7, x8, x9, x10, x11, x12⟩ := hB
  have hK := hO.1
  have h6a := hL.2.2.2.2.1
  have h6b := hL.2.2.2.2.2.1
  have h86 := hL.2.2.2.1
  have n9 := ht.2.1
  have hS := tqS_b (f := f) e1
  have hE := tqE_b (f := f) e1
  unfold pGd
  have ec : jm J 356 (jI 5).toNatClampNeg = jI (s 5) := by
    rw [jI_cl (by decide) (by decide)]
    show jI (J 356 5) = _
    rw [hs]
  have T0 : ∀ Q : zO → zI → Prop, wz W 206 0 [.ref 353, .float 0] [] (jm J) Q = wz W 203 0 [.ref 353, .int (jI (if s 5 = 6 then 1 else 0))] [] (jm J) (zk Q (fun v I1 => wz W 206 20 [.ref 353, .float 0] (v.toList ++ []) I1 Q)) := by
    intro Q
    rw [sg_206_0, ec, ifE (by omega) (by omega) (by omega) (by omega), jI_in (by decide) (by decide) (by decide)]
    simp only [true_and]
    by_cases c : s 5 = 6
    · rw [if_pos c, if_pos c, sg_206_17]
    · rw [if_neg c, if_neg c, sg_206_17]
  by_cases hm : s 5 = 6
  · refine ⟨jrow J 353 (sset (J 353) 7 (tqS f n e)), fun Q => ?_, fT_7, ?_⟩
    · rw [T0, if_pos hm, sp_203f hp]
      simp only [zk_l, zk_r, Option.toList_some, Option.toList_none, List.cons_append, List.nil_append, zrokB, zrokB0, zrokB1, zrokJ0, zrokJ1, and_true, true_and, and_self, if_true, if_false, b2_0, b2_1, b2_not, ite_self]
      rw [sg_206_20, if_pos (by decide)]
    · rw [if_pos hm]
      exact row7
  · rw [if_neg hm]
    obtain ⟨J1, r1, f1, pr1⟩ := sp_203t (W := W) ht hp e0 e1
    have ht1 : txt (J1 354) f n := by rw [f1.1 354 (by decide)]; exact ht
    have s1 : J1 356 = s := by rw [f1.1 356 (by decide)]; exact hs
    have T1 : ∀ Q : zO → zI → Prop, wz W 206 0 [.ref 353, .float 0] [] (jm J) Q = wz W 206 20 [.ref 353, .float 0] [.int (jI 1)] (jm J1) Q := by
      intro Q
      rw [T0, if_neg hm, r1]
      simp only [zk_l, zk_r, Option.toList_some, Option.toList_none, List.cons_append, List.nil_append, zrokB, zrokB0, zrokB1, zrokJ0, zrokJ1, and_true, true_and, and_self, if_true, if_false, b2_0, b2_1, b2_not, ite_self]
    obtain ⟨o2, J2, r2, f2, c2⟩ := sp_200g (W := W) (J := J1) (f := f) (n := n) (e := (tqE f n e)) ht1 pr1 (by omega) (by omega) s1 hK
    show ∃ J', _ ∧ _ ∧ rSt f n J' (pB (pNm f n s (tqE f n e)) _)
    have ec1 : jm J1 356 (jI 5).toNatClampNeg = jI (s 5) := by
      rw [jI_cl (by decide) (by decide)]
      show jI (J1 356 5) = _
      rw [s1]
    have T2 : ∀ (v : Int), o2 = oI v → ∀ Q : zO → zI → Prop, wz W 206 0 [.ref 353, .float 0] [] (jm J) Q = wz W 206 48 [.ref 353, .int (jI (36 + 6 * s 5))] [.int (jI v), .int (jI (36 + 6 * s 5)), .ref 356] (jm J2) Q := by
      intro v hv Q
      rw [T1, sg_206_20, if_neg (by decide), ec1, jI_in (by decide) (by decide) (by decide)]
      simp only [true_and]
      rw [r2, hv]
      simp only [zk_l, zk_r, Option.toList_some, Option.toList_none, List.cons_append, List.nil_append, zrokB, zrokB0, zrokB1, zrokJ0, zrokJ1, and_true, true_and, and_self, if_true, if_false, b2_0, b2_1, b2_not, ite_self, jI_mul, jI_add, Int.add_zero]
    cases hq2 : pNm f n s (tqE f n e) with
    | inl p =>
      rw [hq2] at c2
      obtain ⟨ho, p7⟩ := c2
      have hpb := pNm_l (by omega) (by omega) hq2
      obtain ⟨g, hg⟩ := bt206_48 (W := W) (J := J2) (x := 36 + 6 * s 5) (v := 0) (i := 36 + 6 * s 5) (by omega) (by omega) (by omega) (by omega) (by omega) (by omega)
      refine ⟨jrow J2 356 g, fun Q => ?_, fT_t (fT_t (fT_f f1) (fT_f f2)) fT_356, ?_⟩
      · rw [T2 0 ho]
        exact hg Q
      · show jrow J2 356 g 353 7 = p
        rw [jrow_ne (by decide)]
        exact p7
    | inr v =>
      obtain ⟨a2, e2⟩ := v
      have hb2 := pNm_e (by omega) hq2
      rw [hq2] at c2
      obtain ⟨rfl, pr2⟩ := c2
      have q2 : J2 356 = J1 356 := f2.1 356 (by decide)
      let K2 : zJ := jrow J2 356 (sset (J2 356) (36 + 6 * s 5) a2)
      have prk2 : PR f n K2 e2 := PR_356 pr2
      have kk2 : K2 353 = J2 353 := jrow_ne (by decide)
      have htk2 : txt (K2 354) f n := by
        show txt (jrow J2 356 _ 354) f n
        rw [jrow_ne (by decide), f2.1 354 (by decide)]
        exact ht1
      obtain ⟨o3, J3, r3, f3, c3⟩ := sp_192g (W := W) (J := K2) (f := f) (n := n) (e := e2) (lo := (-30)) (hi := 20) htk2 prk2 (by omega) (by omega) (by omega) (by omega) (by omega) (by omega)
      show ∃ J', _ ∧ _ ∧ rSt f n J' (pB (pTe f n (-30) 20 e2) _)
      have T3 : ∀ (v : Int), o3 = oI v → ∀ Q : zO → zI → Prop, wz W 206 0 [.ref 353, .float 0] [] (jm J) Q = wz W 206 64 [.ref 353, .int (jI (36 + 6 * s 5))] [.int (jI v), .int (jI (36 + 6 * s 5 + 1)), .ref 356] (jm J3) Q := by
        intro v hv Q
        rw [T2 a2 rfl, sg_206_48 (hqt0 := h_356)]
        simp (disch := first | assumption | omega) only [zk_l, zk_r, Option.toList_some, Option.toList_none, List.cons_append, List.nil_append, zrokB, zrokB0, zrokB1, zrokJ0, zrokJ1, and_true, true_and, and_self, if_true, if_false, b2_0, b2_1, b2_not, ite_self, Int.add_zero, jI_nat, jI_add, jI_sub, jI_mul, jI_neg, jI_lt, jI_le, jI_eq, jI_lt0, jI_0lt, jI_le0, jI_0le, jI_eq0, jI_in, jI_dv, i_mod, jI_cl, jm_n, jz_n, i_lit, i_c0, i_c1, Int.toNat_of_nonneg, Int.toNat_natCast, jrow_same, jrow_ne, jrow_jrow, sset_eq, sset_ne]
        skip
        refine Eq.trans (r3 _) ?_
        rw [hv]
        simp only [zk_l, zk_r, Option.toList_some, Option.toList_none, List.cons_append, List.nil_append, zrokB, zrokB0, zrokB1, zrokJ0, zrokJ1, and_true, true_and, and_self, if_true, if_false, b2_0, b2_1, b2_not, ite_self]
      cases hq3 : pTe f n (-30) 20 e2 with
      | inl p =>
        rw [hq3] at c3
        obtain ⟨ho, p7⟩ := c3
        have hpb := pTe_p (by omega) (by omega) hq3
        obtain ⟨g, hg⟩ := bt206_64 (W := W) (J := J3) (x := 36 + 6 * s 5) (v := 0) (i := 36 + 6 * s 5 + 1) (by omega) (by omega) (by omega) (by omega) (by omega) (by omega)
        refine ⟨jrow J3 356 g, fun Q => ?_, fT_t (fT_t (fT_t (fT_t (fT_f f1) (fT_f f2)) fT_356) (fT_f f3)) fT_356, ?_⟩
        · rw [T3 0 ho]
          exact hg Q
        · show jrow J3 356 g 353 7 = p
          rw [jrow_ne (by decide)]
          exact p7
      | inr v =>
        obtain ⟨a3, e3⟩ := v
        have hb3 := pTe_e (by omega) hq3
        rw [hq3] at c3
        obtain ⟨rfl, pr3⟩ := c3
        have q3 : J3 356 = K2 356 := f3.1 356 (by decide)
        let K3 : zJ := jrow J3 356 (sset (J3 356) (36 + 6 * s 5 + 1) a3)
        have prk3 : PR f n K3 e3 := PR_356 pr3
        have kk3 : K3 353 = J3 353 := jrow_ne (by decide)
        have htk3 : txt (K3 354) f n := by
          show txt (jrow J3 356 _ 354) f n
          rw [jrow_ne (by decide), f3.1 354 (by decide)]
          exact htk2
        have low3 : jm K3 356 (jI (36 + 6 * s 5 + 1)).toNatClampNeg = jI a3 := by
          rw [jI_cl (by omega) (by omega)]
          show jI (jrow J3 356 (sset (J3 356) (36 + 6 * s 5 + 1) a3) 356 ((36 + 6 * s 5 + 1).toNat : Int)) = _
          rw [jrow_same, Int.toNat_of_nonneg (by omega), sset_eq rfl]
        obtain ⟨o4, J4, r4, f4, c4⟩ := sp_192g (W := W) (J := K3) (f := f) (n := n) (e := e3) (lo := a3) (hi := 20) htk3 prk3 (by omega) (by omega) (by omega) (by omega) (by omega) (by omega)
        show ∃ J', _ ∧ _ ∧ rSt f n J' (pB (pTe f n a3 20 e3) _)
        have T4 : ∀ (v : Int), o4 = oI v → ∀ Q : zO → zI → Prop, wz W 206 0 [.ref 353, .float 0] [] (jm J) Q = wz W 206 86 [.ref 353, .int (jI (36 + 6 * s 5))] [.int (jI v), .int (jI (36 + 6 * s 5 + 2)), .ref 356] (jm J4) Q := by
          intro v hv Q
          rw [T3 a3 rfl, sg_206_64 (hqt0 := h_356)]
          simp (disch := first | assumption | omega) only [zk_l, zk_r, Option.toList_some, Option.toList_none, List.cons_append, List.nil_append, zrokB, zrokB0, zrokB1, zrokJ0, zrokJ1, and_true, true_and, and_self, if_true, if_false, b2_0, b2_1, b2_not, ite_self, Int.add_zero, jI_nat, jI_add, jI_sub, jI_mul, jI_neg, jI_lt, jI_le, jI_eq, jI_lt0, jI_0lt, jI_le0, jI_0le, jI_eq0, jI_in, jI_dv, i_mod, jI_cl, jm_n, jz_n, i_lit, i_c0, i_c1, Int.toNat_of_nonneg, Int.toNat_natCast, jrow_same, jrow_ne, jrow_jrow, sset_eq, sset_ne]
          skip
          refine Eq.trans (r4 _) ?_
          rw [hv]
          simp only [zk_l, zk_r, Option.toList_some, Option.toList_none, List.cons_append, List.nil_append, zrokB, zrokB0, zrokB1, zrokJ0, zrokJ1, and_true, true_and, and_self, if_true, if_false, b2_0, b2_1, b2_not, ite_self]
        cases hq4 : pTe f n a3 20 e3 with
        | inl p =>
          rw [hq4] at c4
          obtain ⟨ho, p7⟩ := c4
          have hpb := pTe_p (by omega) (by omega) hq4
          obtain ⟨g, hg⟩ := bt206_86 (W := W) (J := J4) (x := 36 + 6 * s 5) (v := 0) (i := 36 + 6 * s 5 + 2) (by omega) (by omega) (by omega) (by omega) (by omega) (by omega)
          refine ⟨jrow J4 356 g, fun Q => ?_, fT_t (fT_t (fT_t (fT_t (fT_t (fT_t (fT_f f1) (fT_f f2)) fT_356) (fT_f f3)) fT_356) (fT_f f4)) fT_356, ?_⟩
          · rw [T4 0 ho]
            exact hg Q
          · show jrow J4 356 g 353 7 = p
            rw [jrow_ne (by decide)]
            exact p7
        | inr v =>
          obtain ⟨a4, e4⟩ := v
          have hb4 := pTe_e (by omega) hq4
          rw [hq4] at c4
          obtain ⟨rfl, pr4⟩ := c4
          have q4 : J4 356 = K3 356 := f4.1 356 (by decide)
          let K4 : zJ := jrow J4 356 (sset (J4 356) (36 + 6 * s 5 + 2) a4)
          have prk4 : PR f n K4 e4 := PR_356 pr4
          have kk4 : K4 353 = J4 353 := jrow_ne (by decide)
          have htk4 : txt (K4 354) f n := by
            show txt (jrow J4 356 _ 354) f n
            rw [jrow_ne (by decide), f4.1 354 (by decide)]
            exact htk3
          obtain ⟨o5, J5, r5, f5, c5⟩ := sp_191g (W := W) (J := K4) (f := f) (n := n) (e := e4) (lo := 1) (hi := 60) htk4 prk4 (by omega) (by omega) (by omega) (by omega) (by omega) (by omega)
          show ∃ J', _ ∧ _ ∧ rSt f n J' (pB (pNu f n 1 60 e4) _)
          have T5 : ∀ (v : Int), o5 = oI v → ∀ Q : zO → zI → Prop, wz W 206 0 [.ref 353, .float 0] [] (jm J) Q = wz W 206 101 [.ref 353, .int (jI (36 + 6 * s 5))] [.int (jI v), .int (jI (36 + 6 * s 5 + 3)), .ref 356] (jm J5) Q := by
            intro v hv Q
            rw [T4 a4 rfl, sg_206_86 (hqt0 := h_356)]
            simp (disch := first | assumption | omega) only [zk_l, zk_r, Option.toList_some, Option.toList_none, List.cons_append, List.nil_append, zrokB, zrokB0, zrokB1, zrokJ0, zrokJ1, and_true, true_and, and_self, if_true, if_false, b2_0, b2_1, b2_not, ite_self, Int.add_zero, jI_nat, jI_add, jI_sub, jI_mul, jI_neg, jI_lt, jI_le, jI_eq, jI_lt0, jI_0lt, jI_le0, jI_0le, jI_eq0, jI_in, jI_dv, i_mod, jI_cl, jm_n, jz_n, i_lit, i_c0, i_c1, Int.toNat_of_nonneg, Int.toNat_natCast, jrow_same, jrow_ne, jrow_jrow, sset_eq, sset_ne]
            skip
            refine Eq.trans (r5 _) ?_
            rw [hv]
            simp only [zk_l, zk_r, Option.toList_some, Option.toList_none, List.cons_append, List.nil_append, zrokB, zrokB0, zrokB1, zrokJ0, zrokJ1, and_true, true_and, and_self, if_true, if_false, b2_0, b2_1, b2_not, ite_self]
          cases hq5 : pNu f n 1 60 e4 with
          | inl p =>
            rw [hq5] at c5
            obtain ⟨ho, p7⟩ := c5
            have hpb := pSg_p (by omega) (by omega) hq5
            obtain ⟨g, hg⟩ := bt206_101 (W := W) (J := J5) (x := 36 + 6 * s 5) (v := 0) (i := 36 + 6 * s 5 + 3) (by omega) (by omega) (by omega) (by omega) (by omega) (by omega)
            refine ⟨jrow J5 356 g, fun Q => ?_, fT_t (fT_t (fT_t (fT_t (fT_t (fT_t (fT_t (fT_t (fT_f f1) (fT_f f2)) fT_356) (fT_f f3)) fT_356) (fT_f f4)) fT_356) (fT_f f5)) fT_356, ?_⟩
            · rw [T5 0 ho]
              exact hg Q
            · show jrow J5 356 g 353 7 = p
              rw [jrow_ne (by decide)]
              exact p7
          | inr v =>
            obtain ⟨a5, e5⟩ := v
            have hb5 := pSg_e (by omega) hq5
            rw [hq5] at c5
            obtain ⟨rfl, pr5⟩ := c5
            have q5 : J5 356 = K4 356 := f5.1 356 (by decide)
            let K5 : zJ := jrow J5 356 (sset (J5 356) (36 + 6 * s 5 + 3) a5)
            have prk5 : PR f n K5 e5 := PR_356 pr5
            have kk5 : K5 353 = J5 353 := jrow_ne (by decide)
            have htk5 : txt (K5 354) f n := by
              show txt (jrow J5 356 _ 354) f n
              rw [jrow_ne (by decide), f5.1 354 (by decide)]
              exact htk4
            obtain ⟨o6, J6, r6, f6, c6⟩ := sp_191g (W := W) (J := K5) (f := f) (n := n) (e := e5) (lo := 0) (hi := 9) htk5 prk5 (by omega) (by omega) (by omega) (by omega) (by omega) (by omega)
            show ∃ J', _ ∧ _ ∧ rSt f n J' (pB (pNu f n 0 9 e5) _)
            have T6 : ∀ (v : Int), o6 = oI v → ∀ Q : zO → zI → Prop, wz W 206 0 [.ref 353, .float 0] [] (jm J) Q = wz W 206 116 [.ref 353, .int (jI (36 + 6 * s 5))] [.int (jI v), .int (jI (36 + 6 * s 5 + 4)), .ref 356] (jm J6) Q := by
              intro v hv Q
              rw [T5 a5 rfl, sg_206_101 (hqt0 := h_356)]
              simp (disch := first | assumption | omega) only [zk_l, zk_r, Option.toList_some, Option.toList_none, List.cons_append, List.nil_append, zrokB, zrokB0, zrokB1, zrokJ0, zrokJ1, and_true, true_and, and_self, if_true, if_false, b2_0, b2_1, b2_not, ite_self, Int.add_zero, jI_nat, jI_add, jI_sub, jI_mul, jI_neg, jI_lt, jI_le, jI_eq, jI_lt0, jI_0lt, jI_le0, jI_0le, jI_eq0, jI_in, jI_dv, i_mod, jI_cl, jm_n, jz_n, i_lit, i_c0, i_c1, Int.toNat_of_nonneg, Int.toNat_natCast, jrow_same, jrow_ne, jrow_jrow, sset_eq, sset_ne]
              skip
              refine Eq.trans (r6 _) ?_
              rw [hv]
              simp only [zk_l, zk_r, Option.toList_some, Option.toList_none, List.cons_append, List.nil_append, zrokB, zrokB0, zrokB1, zrokJ0, zrokJ1, and_true, true_and, and_self, if_true, if_false, b2_0, b2_1, b2_not, ite_self]
            cases hq6 : pNu f n 0 9 e5 with
            | inl p =>
              rw [hq6] at c6
              obtain ⟨ho, p7⟩ := c6
              have hpb := pSg_p (by omega) (by omega) hq6
              obtain ⟨g, hg⟩ := bt206_116 (W := W) (J := J6) (x := 36 + 6 * s 5) (v := 0) (i := 36 + 6 * s 5 + 4) (by omega) (by omega) (by omega) (by omega) (by omega) (by omega)
              refine ⟨jrow J6 356 g, fun Q => ?_, fT_t (fT_t (fT_t (fT_t (fT_t (fT_t (fT_t (fT_t (fT_t (fT_t (fT_f f1) (fT_f f2)) fT_356) (fT_f f3)) fT_356) (fT_f f4)) fT_356) (fT_f f5)) fT_356) (fT_f f6)) fT_356, ?_⟩
              · rw [T6 0 ho]
                exact hg Q
              · show jrow J6 356 g 353 7 = p
                rw [jrow_ne (by decide)]
                exact p7
            | inr v =>
              obtain ⟨a6, e6⟩ := v
              have hb6 := pSg_e (by omega) hq6
              rw [hq6] at c6
              obtain ⟨rfl, pr6⟩ := c6
              have q6 : J6 356 = K5 356 := f6.1 356 (by decide)
              let K6 : zJ := jrow J6 356 (sset (J6 356) (36 + 6 * s 5 + 4) a6)
              have prk6 : PR f n K6 e6 := PR_356 pr6
              have kk6 : K6 353 = J6 353 := jrow_ne (by decide)
              have htk6 : txt (K6 354) f n := by
                show txt (jrow J6 356 _ 354) f n
                rw [jrow_ne (by decide), f6.1 354 (by decide)]
                exact htk5
              obtain ⟨o7, J7, r7, f7, c7⟩ := sp_191g (W := W) (J := K6) (f := f) (n := n) (e := e6) (lo := 0) (hi := 9) htk6 prk6 (by omega) (by omega) (by omega) (by omega) (by omega) (by omega)
              show ∃ J', _ ∧ _ ∧ rSt f n J' (pB (pNu f n 0 9 e6) _)
              have T7 : ∀ (v : Int), o7 = oI v → ∀ Q : zO → zI → Prop, wz W 206 0 [.ref 353, .float 0] [] (jm J) Q = wz W 206 131 [.ref 353, .int (jI (36 + 6 * s 5))] [.int (jI v), .int (jI (36 + 6 * s 5 + 5)), .ref 356] (jm J7) Q := by
                intro v hv Q
                rw [T6 a6 rfl, sg_206_116 (hqt0 := h_356)]
                simp (disch := first | assumption | omega) only [zk_l, zk_r, Option.toList_some, Option.toList_none, List.cons_append, List.nil_append, zrokB, zrokB0, zrokB1, zrokJ0, zrokJ1, and_true, true_and, and_self, if_true, if_false, b2_0, b2_1, b2_not, ite_self, Int.add_zero, jI_nat, jI_add, jI_sub, jI_mul, jI_neg, jI_lt, jI_le, jI_eq, jI_lt0, jI_0lt, jI_le0, jI_0le, jI_eq0, jI_in, jI_dv, i_mod, jI_cl, jm_n, jz_n, i_lit, i_c0, i_c1, Int.toNat_of_nonneg, Int.toNat_natCast, jrow_same, jrow_ne, jrow_jrow, sset_eq, sset_ne]
                skip
                refine Eq.trans (r7 _) ?_
                rw [hv]
                simp only [zk_l, zk_r, Option.toList_some, Option.toList_none, List.cons_append, List.nil_append, zrokB, zrokB0, zrokB1, zrokJ0, zrokJ1, and_true, true_and, and_self, if_true, if_false, b2_0, b2_1, b2_not, ite_self]
              cases hq7 : pNu f n 0 9 e6 with
              | inl p =>
                rw [hq7] at c7
                obtain ⟨ho, p7⟩ := c7
                have hpb := pSg_p (by omega) (by omega) hq7
                obtain ⟨g, hg⟩ := bt206_131 (W := W) (J := J7) (x := 36 + 6 * s 5) (v := 0) (i := 36 + 6 * s 5 + 5) (by omega) (by omega) (by omega) (by omega)
                refine ⟨jrow J7 356 g, fun Q => ?_, fT_t (fT_t (fT_t (fT_t (fT_t (fT_t (fT_t (fT_t (fT_t (fT_t (fT_t (fT_t (fT_f f1) (fT_f f2)) fT_356) (fT_f f3)) fT_356) (fT_f f4)) fT_356) (fT_f f5)) fT_356) (fT_f f6)) fT_356) (fT_f f7)) fT_356, ?_⟩
                · rw [T7 0 ho]
                  exact hg Q
                · show jrow J7 356 g 353 7 = p
                  rw [jrow_ne (by decide)]
                  exact p7
              | inr v =>
                obtain ⟨a7, e7⟩ := v
                have hb7 := pSg_e (by omega) hq7
                rw [hq7] at c7
                obtain ⟨rfl, pr7⟩ := c7
                have q7 : J7 356 = K6 356 := f7.1 356 (by decide)
                have hq356 : J7 356 = sset (sset (sset (sset (sset s (36 + 6 * s 5) a2) (36 + 6 * s 5 + 1) a3) (36 + 6 * s 5 + 2) a4) (36 + 6 * s 5 + 3) a5) (36 + 6 * s 5 + 4) a6 := by
                  rw [q7]
                  show jrow J6 356 _ 356 = _
                  rw [jrow_same, q6]
                  show sset (jrow J5 356 _ 356) _ _ = _
                  rw [jrow_same, q5]
                  show sset (sset (jrow J4 356 _ 356) _ _) _ _ = _
                  rw [jrow_same, q4]
                  show sset (sset (sset (jrow J3 356 _ 356) _ _) _ _) _ _ = _
                  rw [jrow_same, q3]
                  show sset (sset (sset (sset (jrow J2 356 _ 356) _ _) _ _) _ _) _ _ = _
                  rw [jrow_same, q2, s1]
                let R : Int → Int := sset (sset (sset (sset (sset (sset s (36 + 6 * s 5) a2) (36 + 6 * s 5 + 1) a3) (36 + 6 * s 5 + 2) a4) (36 + 6 * s 5 + 3) a5) (36 + 6 * s 5 + 4) a6) (36 + 6 * s 5 + 5) a7
                have hR5 : R 5 = s 5 := by
                  show sset (sset (sset (sset (sset (sset s (36 + 6 * s 5) a2) (36 + 6 * s 5 + 1) a3) (36 + 6 * s 5 + 2) a4) (36 + 6 * s 5 + 3) a5) (36 + 6 * s 5 + 4) a6) (36 + 6 * s 5 + 5) a7 5 = _
                  rw [sset_ne (by omega), sset_ne (by omega), sset_ne (by omega), sset_ne (by omega), sset_ne (by omega), sset_ne (by omega)]
                let J8 : zJ := jrow J7 356 R
                have e6' : sset (J7 356) (36 + 6 * s 5 + 5) a7 = R := by
                  rw [hq356]
                refine ⟨jrow J7 356 (sset R 5 (s 5 + 1)), fun Q => ?_, fT_t (fT_t (fT_t (fT_t (fT_t (fT_t (fT_t (fT_t (fT_t (fT_t (fT_t (fT_t (fT_f f1) (fT_f f2)) fT_356) (fT_f f3)) fT_356) (fT_f f4)) fT_356) (fT_f f5)) fT_356) (fT_f f6)) fT_356) (fT_f f7)) fT_356, PR_356 pr7, by rw [jrow_same]; rfl, ?_, ?_⟩
                · rw [T7 a7 rfl, sg_206_131 (hqt0 := h_356)]
                  simp (disch := first | assumption | omega) only [zk_l, zk_r, Option.toList_some, Option.toList_none, List.cons_append, List.nil_append, zrokB, zrokB0, zrokB1, zrokJ0, zrokJ1, and_true, true_and, and_self, if_true, if_false, b2_0, b2_1, b2_not, ite_self, Int.add_zero, jI_nat, jI_add, jI_sub, jI_mul, jI_neg, jI_lt, jI_le, jI_eq, jI_lt0, jI_0lt, jI_le0, jI_0le, jI_eq0, jI_in, jI_dv, i_mod, jI_cl, jm_n, jz_n, i_lit, i_c0, i_c1, Int.toNat_of_nonneg, Int.toNat_natCast, jrow_same, jrow_ne, jrow_jrow, sset_eq, sset_ne, e6']
                  refine (sp_187g (J := J8) (PR_356 pr7).2.2.2.2.2).trans ?_
                  simp only [zk_l, zk_r, Option.toList_some, Option.toList_none, List.cons_append, List.nil_append, zrokB, zrokB0, zrokB1, zrokJ0, zrokJ1, and_true, true_and, and_self, if_true, if_false, b2_0, b2_1, b2_not, ite_self]
                  rw [sg_206_143 (hqt0 := h_356), if_neg (by decide), sg_206_151 (hqt0 := h_356), hR5]
                  show (zvin (jI 5) 472 = true ∧ Q oV (zset (jm J8) 356 (jI 5).toNatClampNeg (jI (s 5) + jI 1))) = _
                  rw [jI_in (by decide) (by decide) (by decide), jI_add, jI_cl (by decide) (by decide)]
                  simp (disch := first | assumption | omega) only [jz_n, i_lit, true_and]
                  have e1 : J8 356 = R := jrow_same
                  have e2 : ∀ g, jrow J8 356 g = jrow J7 356 g := fun g => jrow_jrow
                  show Q oV (jm (jrow J8 356 (sset (J8 356) 5 _))) = _
                  rw [e1, e2]
                · rw [jrow_ne (by decide), f7.2 11 (by decide), kk6, f6.2 11 (by decide), kk5, f5.2 11 (by decide), kk4, f4.2 11 (by decide), kk3, f3.2 11 (by decide), kk2, f2.2 11 (by decide), f1.2 11 (by decide)]
                  exact h11
                · rw [jrow_ne (by decide), f7.2 12 (by decide), kk6, f6.2 12 (by decide), kk5, f5.2 12 (by decide), kk4, f4.2 12 (by decide), kk3, f3.2 12 (by decide), kk2, f2.2 12 (by decide), f1.2 12 (by decide)]
                  exact h12
theorem sp_208 (ht : txt (J 354) f n) (hp : PR f n J e) (e0 : 0 ≤ e) (e1 : e ≤ n) (hs : J 356 = s) (h11 : J 353 11 = hl) (h12 : J 353 12 = hq) (hO : okR s hl hq) :
    ∃ J', (∀ Q : zO → zI → Prop, wz W 208 0 [.ref 353, .float 0] [] (jm J) Q = Q oV (jm J')) ∧ fT J J' ∧ rSt f n J' (pOr f n s hl hq e) := by
  have hO' := hO
  obtain ⟨⟨hB, hC, hG, hOo⟩, hN, hL, hh⟩ := hO'
  obtain ⟨x1, x2, x3, x4, x5, x6, x7, x8, x9, x10, x11, x12⟩ := hB
  have hK := hO.1
  have h6a := hL.2.2.2.2.1
  have h6b := hL.2.2.2.2.2.1
  have h86 := hL.2.2.2.1
  have n9 := ht.2.1
  have hS := tqS_b (f := f) e1
  have hE := tqE_b (f := f) e1
  unfold pOr
  have ec : jm J 356 (jI 7).toNatClampNeg = jI (s 7) := by
    rw [jI_cl (by decide) (by decide)]
    show jI (J 356 7) = _
    rw [hs]
  have T0 : ∀ Q : zO → zI → Prop, wz W 208 0 [.ref 353, .float 0] [] (jm J) Q = wz W 203 0 [.ref 353, .int (jI (if s 7 = 10 then 1 else 0))] [] (jm J) (zk Q (fun v I1 => wz W 208 21 [.ref 353, .float 0] (v.toList ++ []) I1 Q)) := by
    intro Q
    rw [sg_208_0, ec, ifE (by omega) (by omega) (by omega) (by omega), jI_in (by decide) (by decide) (by decide)]
    simp only [true_and]
    by_cases c : s 7 = 10
    · rw [if_pos c, if_pos c, sg_208_18]
    · rw [if_neg c, if_neg c, sg_208_18]
  by_cases hm : s 7 = 10
  · refine ⟨jrow J 353 (sset (J 353) 7 (tqS f n e)), fun Q => ?_, fT_7, ?_⟩
    · rw [T0, if_pos hm, sp_203f hp]
      simp only [zk_l, zk_r, Option.toList_some, Option.toList_none, List.cons_append, List.nil_append, zrokB, zrokB0, zrokB1, zrokJ0, zrokJ1, and_true, true_and, and_self, if_true, if_false, b2_0, b2_1, b2_not, ite_self]
      rw [sg_208_21, if_pos (by decide)]
    · rw [if_pos hm]
      exact row7
  · rw [if_neg hm]
    obtain ⟨J1, r1, f1, pr1⟩ := sp_203t (W := W) ht hp e0 e1
    have ht1 : txt (J1 354) f n := by rw [f1.1 354 (by decide)]; exact ht
    have s1 : J1 356 = s := by rw [f1.1 356 (by decide)]; exact hs
    have T1 : ∀ Q : zO → zI → Prop, wz W 208 0 [.ref 353, .float 0] [] (jm J) Q = wz W 208 21 [.ref 353, .float 0] [.int (jI 1)] (jm J1) Q := by
      intro Q
      rw [T0, if_neg hm, r1]
      simp only [zk_l, zk_r, Option.toList_some, Option.toList_none, List.cons_append, List.nil_append, zrokB, zrokB0, zrokB1, zrokJ0, zrokJ1, and_true, true_and, and_self, if_true, if_false, b2_0, b2_1, b2_not, ite_self]
    obtain ⟨o2, J2, r2, f2, c2⟩ := sp_202g (W := W) (J := J1) (f := f) (n := n) (e := (tqE f n e)) ht1 pr1 (by omega) (by omega) s1 hK
    show ∃ J', _ ∧ _ ∧ rSt f n J' (pB (pGn f n s (tqE f n e)) _)
    have ec1 : jm J1 356 (jI 7).toNatClampNeg = jI (s 7) := by
      rw [jI_cl (by decide) (by decide)]
      show jI (J1 356 7) = _
      rw [s1]
    have T2 : ∀ (v : Int), o2 = oI v → ∀ Q : zO → zI → Prop, wz W 208 0 [.ref 353, .float 0] [] (jm J) Q = wz W 208 48 [.ref 353, .int (jI (352 + 4 * s 7))] [.int (jI v), .int (jI (352 + 4 * s 7)), .ref 356] (jm J2) Q := by
      intro v hv Q
      rw [T1, sg_208_21, if_neg (by decide), ec1, jI_in (by decide) (by decide) (by decide)]
      simp only [true_and]
      rw [r2, hv]
      simp only [zk_l, zk_r, Option.toList_some, Option.toList_none, List.cons_append, List.nil_append, zrokB, zrokB0, zrokB1, zrokJ0, zrokJ1, and_true, true_and, and_self, if_true, if_false, b2_0, b2_1, b2_not, ite_self, jI_mul, jI_add, Int.add_zero]
    cases hq2 : pGn f n s (tqE f n e) with
    | inl p =>
      rw [hq2] at c2
      obtain ⟨ho, p7⟩ := c2
      have hpb := pGn_l (by omega) (by omega) hq2
      obtain ⟨g, hg⟩ := bt208_48 (W := W) (J := J2) (x := 352 + 4 * s 7) (v := 0) (i := 352 + 4 * s 7) (by omega) (by omega) (by omega) (by omega) (by omega) (by omega)
      refine ⟨jrow J2 356 g, fun Q => ?_, fT_t (fT_t (fT_f f1) (fT_f f2)) fT_356, ?_⟩
      · rw [T2 0 ho]
        exact hg Q
      · show jrow J2 356 g 353 7 = p
        rw [jrow_ne (by decide)]
        exact p7
    | inr v =>
      obtain ⟨a2, e2⟩ := v
      have hb2 := pGn_e (by omega) hq2
      rw [hq2] at c2
      obtain ⟨rfl, pr2⟩ := c2
      have q2 : J2 356 = J1 356 := f2.1 356 (by decide)
      let K2 : zJ := jrow J2 356 (sset (J2 356) (352 + 4 * s 7) a2)
      have prk2 : PR f n K2 e2 := PR_356 pr2
      have kk2 : K2 353 = J2 353 := jrow_ne (by decide)
      have htk2 : txt (K2 354) f n := by
        show txt (jrow J2 356 _ 354) f n
        rw [jrow_ne (by decide), f2.1 354 (by decide)]
        exact ht1
      obtain ⟨o3, J3, r3, f3, c3⟩ := sp_191g (W := W) (J := K2) (f := f) (n := n) (e := e2) (lo := 1) (hi := 9) htk2 prk2 (by omega) (by omega) (by omega) (by omega) (by omega) (by omega)
      show ∃ J', _ ∧ _ ∧ rSt f n J' (pB (pNu f n 1 9 e2) _)
      have T3 : ∀ (v : Int), o3 = oI v → ∀ Q : zO → zI → Prop, wz W 208 0 [.ref 353, .float 0] [] (jm J) Q = wz W 208 63 [.ref 353, .int (jI (352 + 4 * s 7))] [.int (jI v), .int (jI (352 + 4 * s 7 + 1)), .ref 356] (jm J3) Q := by
        intro v hv Q
        rw [T2 a2 rfl, sg_208_48 (hqt0 := h_356)]
        simp (disch := first | assumption | omega) only [zk_l, zk_r, Option.toList_some, Option.toList_none, List.cons_append, List.nil_append, zrokB, zrokB0, zrokB1, zrokJ0, zrokJ1, and_true, true_and, and_self, if_true, if_false, b2_0, b2_1, b2_not, ite_self, Int.add_zero, jI_nat, jI_add, jI_sub, jI_mul, jI_neg, jI_lt, jI_le, jI_eq, jI_lt0, jI_0lt, jI_le0, jI_0le, jI_eq0, jI_in, jI_dv, i_mod, jI_cl, jm_n, jz_n, i_lit, i_c0, i_c1, Int.toNat_of_nonneg, Int.toNat_natCast, jrow_same, jrow_ne, jrow_jrow, sset_eq, sset_ne]
        skip
        refine Eq.trans (r3 _) ?_
        rw [hv]
        simp only [zk_l, zk_r, Option.toList_some, Option.toList_none, List.cons_append, List.nil_append, zrokB, zrokB0, zrokB1, zrokJ0, zrokJ1, and_true, true_and, and_self, if_true, if_false, b2_0, b2_1, b2_not, ite_self]
      cases hq3 : pNu f n 1 9 e2 with
      | inl p =>
        rw [hq3] at c3
        obtain ⟨ho, p7⟩ := c3
        have hpb := pSg_p (by omega) (by omega) hq3
        obtain ⟨g, hg⟩ := bt208_63 (W := W) (J := J3) (x := 352 + 4 * s 7) (v := 0) (i := 352 + 4 * s 7 + 1) (by omega) (by omega) (by omega) (by omega) (by omega) (by omega)
        refine ⟨jrow J3 356 g, fun Q => ?_, fT_t (fT_t (fT_t (fT_t (fT_f f1) (fT_f f2)) fT_356) (fT_f f3)) fT_356, ?_⟩
        · rw [T3 0 ho]
          exact hg Q
        · show jrow J3 356 g 353 7 = p
          rw [jrow_ne (by decide)]
          exact p7
      | inr v =>
        obtain ⟨a3, e3⟩ := v
        have hb3 := pSg_e (by omega) hq3
        rw [hq3] at c3
        obtain ⟨rfl, pr3⟩ := c3
        have q3 : J3 356 = K2 356 := f3.1 356 (by decide)
        let K3 : zJ := jrow J3 356 (sset (J3 356) (352 + 4 * s 7 + 1) a3)
        have prk3 : PR f n K3 e3 := PR_356 pr3
        have kk3 : K3 353 = J3 353 := jrow_ne (by decide)
        have htk3 : txt (K3 354) f n := by
          show txt (jrow J3 356 _ 354) f n
          rw [jrow_ne (by decide), f3.1 354 (by decide)]
          exact htk2
        obtain ⟨o4, J4, r4, f4, c4⟩ := sp_191g (W := W) (J := K3) (f := f) (n := n) (e := e3) (lo := 0) (hi := 365) htk3 prk3 (by omega) (by omega) (by omega) (by omega) (by omega) (by omega)
        show ∃ J', _ ∧ _ ∧ rSt f n J' (pB (pNu f n 0 365 e3) _)
        have T4 : ∀ (v : Int), o4 = oI v → ∀ Q : zO → zI → Prop, wz W 208 0 [.ref 353, .float 0] [] (jm J) Q = wz W 208 79 [.ref 353, .int (jI (352 + 4 * s 7))] [.int (jI v), .int (jI (352 + 4 * s 7 + 2)), .ref 356] (jm J4) Q := by
          intro v hv Q
          rw [T3 a3 rfl, sg_208_63 (hqt0 := h_356)]
          simp (disch := first | assumption | omega) only [zk_l, zk_r, Option.toList_some, Option.toList_none, List.cons_append, List.nil_append, zrokB, zrokB0, zrokB1, zrokJ0, zrokJ1, and_true, true_and, and_self, if_true, if_false, b2_0, b2_1, b2_not, ite_self, Int.add_zero, jI_nat, jI_add, jI_sub, jI_mul, jI_neg, jI_lt, jI_le, jI_eq, jI_lt0, jI_0lt, jI_le0, jI_0le, jI_eq0, jI_in, jI_dv, i_mod, jI_cl, jm_n, jz_n, i_lit, i_c0, i_c1, Int.toNat_of_nonneg, Int.toNat_natCast, jrow_same, jrow_ne, jrow_jrow, sset_eq, sset_ne]
          skip
          refine Eq.trans (r4 _) ?_
          rw [hv]
          simp only [zk_l, zk_r, Option.toList_some, Option.toList_none, List.cons_append, List.nil_append, zrokB, zrokB0, zrokB1, zrokJ0, zrokJ1, and_true, true_and, and_self, if_true, if_false, b2_0, b2_1, b2_not, ite_self]
        cases hq4 : pNu f n 0 365 e3 with
        | inl p =>
          rw [hq4] at c4
          obtain ⟨ho, p7⟩ := c4
          have hpb := pSg_p (by omega) (by omega) hq4
          obtain ⟨g, hg⟩ := bt208_79 (W := W) (J := J4) (x := 352 + 4 * s 7) (v := 0) (i := 352 + 4 * s 7 + 2) (by omega) (by omega) (by omega) (by omega)
          refine ⟨jrow J4 356 g, fun Q => ?_, fT_t (fT_t (fT_t (fT_t (fT_t (fT_t (fT_f f1) (fT_f f2)) fT_356) (fT_f f3)) fT_356) (fT_f f4)) fT_356, ?_⟩
          · rw [T4 0 ho]
            exact hg Q
          · show jrow J4 356 g 353 7 = p
            rw [jrow_ne (by decide)]
            exact p7
        | inr v =>
          obtain ⟨a4, e4⟩ := v
          have hb4 := pSg_e (by omega) hq4
          rw [hq4] at c4
          obtain ⟨rfl, pr4⟩ := c4
          have q4 : J4 356 = K3 356 := f4.1 356 (by decide)
          have hq356 : J4 356 = sset (sset s (352 + 4 * s 7) a2) (352 + 4 * s 7 + 1) a3 := by
            rw [q4]
            show jrow J3 356 _ 356 = _
            rw [jrow_same, q3]
            show sset (jrow J2 356 _ 356) _ _ = _
            rw [jrow_same, q2, s1]
          let R : Int → Int := sset (sset (sset s (352 + 4 * s 7) a2) (352 + 4 * s 7 + 1) a3) (352 + 4 * s 7 + 2) a4
          have hR7 : R 7 = s 7 := by
            show sset (sset (sset s (352 + 4 * s 7) a2) (352 + 4 * s 7 + 1) a3) (352 + 4 * s 7 + 2) a4 7 = _
            rw [sset_ne (by omega), sset_ne (by omega), sset_ne (by omega)]
          let J6 : zJ := jrow J4 356 R
          have e6 : sset (J4 356) (352 + 4 * s 7 + 2) a4 = R := by
            rw [hq356]
          refine ⟨jrow J4 356 (sset R 7 (s 7 + 1)), fun Q => ?_, fT_t (fT_t (fT_t (fT_t (fT_t (fT_t (fT_f f1) (fT_f f2)) fT_356) (fT_f f3)) fT_356) (fT_f f4)) fT_356, PR_356 pr4, by rw [jrow_same]; rfl, ?_, ?_⟩
          · rw [T4 a4 rfl, sg_208_79 (hqt0 := h_356)]
            simp (disch := first | assumption | omega) only [zk_l, zk_r, Option.toList_some, Option.toList_none, List.cons_append, List.nil_append, zrokB, zrokB0, zrokB1, zrokJ0, zrokJ1, and_true, true_and, and_self, if_true, if_false, b2_0, b2_1, b2_not, ite_self, Int.add_zero, jI_nat, jI_add, jI_sub, jI_mul, jI_neg, jI_lt, jI_le, jI_eq, jI_lt0, jI_0lt, jI_le0, jI_0le, jI_eq0, jI_in, jI_dv, i_mod, jI_cl, jm_n, jz_n, i_lit, i_c0, i_c1, Int.toNat_of_nonneg, Int.toNat_natCast, jrow_same, jrow_ne, jrow_jrow, sset_eq, sset_ne, e6]
            refine (sp_187g (J := J6) (PR_356 pr4).2.2.2.2.2).trans ?_
            simp only [zk_l, zk_r, Option.toList_some, Option.toList_none, List.cons_append, List.nil_append, zrokB, zrokB0, zrokB1, zrokJ0, zrokJ1, and_true, true_and, and_self, if_true, if_false, b2_0, b2_1, b2_not, ite_self]
            rw [sg_208_92 (hqt0 := h_356), if_neg (by decide), sg_208_100 (hqt0 := h_356), hR7]
            show (zvin (jI 7) 472 = true ∧ Q oV (zset (jm J6) 356 (jI 7).toNatClampNeg (jI (s 7) + jI 1))) = _
            rw [jI_in (by decide) (by decide) (by decide), jI_add, jI_cl (by decide) (by decide)]
            simp (disch := first | assumption | omega) only [jz_n, i_lit, true_and]
            have e1 : J6 356 = R := jrow_same
            have e2 : ∀ g, jrow J6 356 g = jrow J4 356 g := fun g => jrow_jrow
            show Q oV (jm (jrow J6 356 (sset (J6 356) 7 _))) = _
            rw [e1, e2]
          · rw [jrow_ne (by decide), f4.2 11 (by decide), kk3, f3.2 11 (by decide), kk2, f2.2 11 (by decide), f1.2 11 (by decide)]
            exact h11
          · rw [jrow_ne (by decide), f4.2 12 (by decide), kk3, f3.2 12 (by decide), kk2, f2.2 12 (by decide), f1.2 12 (by decide)]
            exact h12
theorem sp_207 (ht : txt (J 354) f n) (hp : PR f n J e) (e0 : 0 ≤ e) (e1 : e ≤ n) (hs : J 356 = s) (h11 : J 353 11 = hl) (h12 : J 353 12 = hq) (hO : okR s hl hq) :
    ∃ J', (∀ Q : zO → zI → Prop, wz W 207 0 [.ref 353, .float 0] [] (jm J) Q = Q oV (jm J')) ∧ fT J J' ∧ rSt f n J' (pPl f n s hl hq e) := by
  have hO' := hO
  obtain ⟨⟨hB, hC, hG, hOo⟩, hN, hL, hh⟩ := hO'
  obtain ⟨x1, x2, x3, x4, x5, x6, x7, x8, x9, x10, x11, x12⟩ := hB
  have hK := hO.1
  have h6a := hL.2.2.2.2.1
  have h6b := hL.2.2.2.2.2.1
  have h86 := hL.2.2.2.1
  have n9 := ht.2.1
  have hS := tqS_b (f := f) e1
  have hE := tqE_b (f := f) e1
  unfold pPl
  have ec : jm J 356 (jI 6).toNatClampNeg = jI (s 6) := by
    rw [jI_cl (by decide) (by decide)]
    show jI (J 356 6) = _
    rw [hs]
  have T0 : ∀ Q : zO → zI → Prop, wz W 207 0 [.ref 353, .float 0] [] (jm J) Q = wz W 203 0 [.ref 353, .int (jI (if s 6 = 8 then 1 else 0))] [] (jm J) (zk Q (fun v I1 => wz W 207 21 [.ref 353, .float 0] (v.toList ++ []) I1 Q)) := by
    intro Q
    rw [sg_207_0, ec, ifE (by omega) (by omega) (by omega) (by omega), jI_in (by decide) (by decide) (by decide)]
    simp only [true_and]
    by_cases c : s 6 = 8
    · rw [if_pos c, if_pos c, sg_207_18]
    · rw [if_neg c, if_neg c, sg_207_18]
  by_cases hm : s 6 = 8
  · refine ⟨jrow J 353 (sset (J 353) 7 (tqS f n e)), fun Q => ?_, fT_7, ?_⟩
    · rw [T0, if_pos hm, sp_203f hp]
      simp only [zk_l, zk_r, Option.toList_some, Option.toList_none, List.cons_append, List.nil_append, zrokB, zrokB0, zrokB1, zrokJ0, zrokJ1, and_true, true_and, and_self, if_true, if_false, b2_0, b2_1, b2_not, ite_self]
      rw [sg_207_21, if_pos (by decide)]
    · rw [if_pos hm]
      exact row7
  · rw [if_neg hm]
    obtain ⟨J1, r1, f1, pr1⟩ := sp_203t (W := W) ht hp e0 e1
    have ht1 : txt (J1 354) f n := by rw [f1.1 354 (by decide)]; exact ht
    have s1 : J1 356 = s := by rw [f1.1 356 (by decide)]; exact hs
    have T1 : ∀ Q : zO → zI → Prop, wz W 207 0 [.ref 353, .float 0] [] (jm J) Q = wz W 207 21 [.ref 353, .float 0] [.int (jI 1)] (jm J1) Q := by
      intro Q
      rw [T0, if_neg hm, r1]
      simp only [zk_l, zk_r, Option.toList_some, Option.toList_none, List.cons_append, List.nil_append, zrokB, zrokB0, zrokB1, zrokJ0, zrokJ1, and_true, true_and, and_self, if_true, if_false, b2_0, b2_1, b2_not, ite_self]
    obtain ⟨o2, J2, r2, f2, c2⟩ := sp_202g (W := W) (J := J1) (f := f) (n := n) (e := tqE f n e) ht1 pr1 (by omega) (by omega) s1 hK
    show ∃ J', _ ∧ _ ∧ rSt f n J' (pB (pGn f n s (tqE f n e)) _)
    have T2 : ∀ (v : Int), o2 = oI v → ∀ Q : zO → zI → Prop, wz W 207 0 [.ref 353, .float 0] [] (jm J) Q = wz W 187 0 [.ref 353] [] (jm J2) (zk Q (fun w I1 => wz W 207 34 [.ref 353, .int (jI v)] (w.toList ++ []) I1 Q)) := by
      intro v hv Q
      rw [T1, sg_207_21, if_neg (by decide), r2, hv]
      simp only [zk_l, zk_r, Option.toList_some, Option.toList_none, List.cons_append, List.nil_append, zrokB, zrokB0, zrokB1, zrokJ0, zrokJ1, and_true, true_and, and_self, if_true, if_false, b2_0, b2_1, b2_not, ite_self]
      rw [sg_207_29]
    cases hq2 : pGn f n s (tqE f n e) with
    | inl p =>
      rw [hq2] at c2
      obtain ⟨ho, p7⟩ := c2
      have hpb := pGn_l (by omega) (by omega) hq2
      refine ⟨J2, fun Q => ?_, fT_t (fT_f f1) (fT_f f2), p7⟩
      rw [T2 0 ho, sp_187b (by omega) (by omega)]
      simp only [zk_l, zk_r, Option.toList_some, Option.toList_none, List.cons_append, List.nil_append, zrokB, zrokB0, zrokB1, zrokJ0, zrokJ1, and_true, true_and, and_self, if_true, if_false, b2_0, b2_1, b2_not, ite_self]
      rw [sg_207_34, if_pos (by decide), sg_207_45]
    | inr v =>
      obtain ⟨a2, e2⟩ := v
      have hb2 := pGn_e (by omega) hq2
      rw [hq2] at c2
      obtain ⟨rfl, pr2⟩ := c2
      have q2 : J2 356 = s := by rw [f2.1 356 (by decide)]; exact s1
      refine ⟨jrow J2 356 (fAdd s a2), fun Q => ?_, fT_t (fT_t (fT_f f1) (fT_f f2)) fT_356, PR_356 pr2, jrow_same, ?_, ?_⟩
      · rw [T2 a2 rfl, sp_187g pr2.2.2.2.2.2]
        simp only [zk_l, zk_r, Option.toList_some, Option.toList_none, List.cons_append, List.nil_append, zrokB, zrokB0, zrokB1, zrokJ0, zrokJ1, and_true, true_and, and_self, if_true, if_false, b2_0, b2_1, b2_not, ite_self]
        rw [sg_207_34, if_neg (by decide), sp_197 h_356 (by rw [q2]; omega) (by rw [q2]; omega) (by rw [q2]; omega) (by rw [q2]; omega), q2]
        simp only [zk_l, zk_r, Option.toList_some, Option.toList_none, List.cons_append, List.nil_append, zrokB, zrokB0, zrokB1, zrokJ0, zrokJ1, and_true, true_and, and_self, if_true, if_false, b2_0, b2_1, b2_not, ite_self]
        rw [sg_207_45]
      · rw [jrow_ne (by decide), f2.2 11 (by decide), f1.2 11 (by decide)]
        exact h11
      · rw [jrow_ne (by decide), f2.2 12 (by decide), f1.2 12 (by decide)]
        exact h12
theorem sp_209 (ht : txt (J 354) f n) (hp : PR f n J e) (e0 : 0 ≤ e) (e1 : e ≤ n) (hs : J 356 = s) (h11 : J 353 11 = hl) (h12 : J 353 12 = hq) (hO : okR s hl hq) :
    ∃ J', (∀ Q : zO → zI → Prop, wz W 209 0 [.ref 353] [] (jm J) Q = Q oV (jm J')) ∧ fT J J' ∧ rSt f n J' (pLi f n s hl hq e) := by
  have hO' := hO
  obtain ⟨⟨hB, hC, hG, hOo⟩, hN, hL, hh⟩ := hO'
  obtain ⟨x1, x2, x3, x4, x5, x6, x7, x8, x9, x10, x11, x12⟩ := hB
  have hK := hO.1
  have h6a := hL.2.2.2.2.1
  have h6b := hL.2.2.2.2.2.1
  have h86 := hL.2.2.2.1
  have n9 := ht.2.1
  have hS := tqS_b (f := f) e1
  have hE := tqE_b (f := f) e1
  unfold pLi
  have hv : hl = 0 ∨ hl = 1 := by omega
  have T0 : ∀ Q : zO → zI → Prop, wz W 209 0 [.ref 353] [] (jm J) Q = wz W 203 0 [.ref 353, .int (jI (if hl = 1 then 1 else 0))] [] (jm J) (zk Q (fun v I1 => wz W 209 8 [.ref 353] (v.toList ++ []) I1 Q)) := by
    intro Q
    have e9 : jm J 353 11 = jI (if hl = 1 then 1 else 0) := by
      show jI (J 353 11) = _
      rw [h11]
      rcases hv with hv | hv <;> rw [hv] <;> rfl
    rw [sg_209_0, e9]
  by_cases hm : hl = 1
  · refine ⟨jrow J 353 (sset (J 353) 7 (tqS f n e)), fun Q => ?_, fT_7, ?_⟩
    · rw [T0, if_pos hm, sp_203f hp]
      simp only [zk_l, zk_r, Option.toList_some, Option.toList_none, List.cons_append, List.nil_append, zrokB, zrokB0, zrokB1, zrokJ0, zrokJ1, and_true, true_and, and_self, if_true, if_false, b2_0, b2_1, b2_not, ite_self]
      rw [sg_209_8, if_pos (by decide), sg_209_44]
    · rw [if_pos hm]
      exact row7
  · rw [if_neg hm]
    obtain ⟨J1, r1, f1, pr1⟩ := sp_203t (W := W) ht hp e0 e1
    have ht1 : txt (J1 354) f n := by rw [f1.1 354 (by decide)]; exact ht
    have s1 : J1 356 = s := by rw [f1.1 356 (by decide)]; exact hs
    have T1 : ∀ Q : zO → zI → Prop, wz W 209 0 [.ref 353] [] (jm J) Q = wz W 209 8 [.ref 353] [.int (jI 1)] (jm J1) Q := by
      intro Q
      rw [T0, if_neg hm, r1]
      simp only [zk_l, zk_r, Option.toList_some, Option.toList_none, List.cons_append, List.nil_append, zrokB, zrokB0, zrokB1, zrokJ0, zrokJ1, and_true, true_and, and_self, if_true, if_false, b2_0, b2_1, b2_not, ite_self]
    let K1 : zJ := jrow J1 353 (sset (J1 353) 11 1)
    have k1 : ∀ i, i ≠ 11 → K1 353 i = J1 353 i := fun i hi => by
      show jrow J1 353 (sset (J1 353) 11 1) 353 i = _
      rw [jrow_same, sset_ne hi]
    have k11 : K1 353 11 = 1 := by
      show jrow J1 353 (sset (J1 353) 11 1) 353 11 = _
      rw [jrow_same, sset_eq rfl]
    have kn : ∀ r, r ≠ 353 → K1 r = J1 r := fun r hr => jrow_ne hr
    have fK : fT J K1 := ⟨fun r a b => by rw [kn r a]; exact f1.1 r a, fun i hi => by rw [k1 i (by omega)]; exact f1.2 i (by omega)⟩
    have prk : PR f n K1 (tqE f n e) := PR_r pr1 (fun i a b => k1 i (by omega))
    have htk : txt (K1 354) f n := by rw [kn 354 (by decide)]; exact ht1
    obtain ⟨o2, J2, r2, f2, c2⟩ := sp_191g (W := W) (J := K1) (f := f) (n := n) (e := tqE f n e) (lo := 0) (hi := 999) htk prk (by omega) (by omega) (by omega) (by omega) (by omega) (by omega)
    show ∃ J', _ ∧ _ ∧ rSt f n J' (pB (pNu f n 0 999 (tqE f n e)) _)
    have T2 : ∀ (v : Int), o2 = oI v → ∀ Q : zO → zI → Prop, wz W 209 0 [.ref 353] [] (jm J) Q = wz W 209 29 [.ref 353] [.int (jI v), .int (jI 1), .ref 356] (jm J2) Q := by
      intro v hv Q
      rw [T1, sg_209_8, if_neg (by decide)]
      simp (disch := first | assumption | omega) only [jz_n, i_lit]
      refine Eq.trans (r2 _) ?_
      rw [hv]
      simp only [zk_l, zk_r, Option.toList_some, Option.toList_none, List.cons_append, List.nil_append, zrokB, zrokB0, zrokB1, zrokJ0, zrokJ1, and_true, true_and, and_self, if_true, if_false, b2_0, b2_1, b2_not, ite_self]
    cases hq2 : pNu f n 0 999 (tqE f n e) with
    | inl p =>
      rw [hq2] at c2
      obtain ⟨ho, p7⟩ := c2
      have hpb := pSg_p (by omega) (by omega) hq2
      let K2 : zJ := jrow J2 356 (sset (J2 356) 1 0)
      have q7 : K2 353 7 = p := by
        show jrow J2 356 _ 353 7 = _
        rw [jrow_ne (by decide)]
        exact p7
      refine ⟨jrow K2 356 (sset (K2 356) 2 0), fun Q => ?_, fT_t (fT_t (fT_t fK (fT_f f2)) fT_356) fT_356, ?_⟩
      · rw [T2 0 ho, sg_209_29 (hqt0 := h_356)]
        simp (disch := first | assumption | omega) only [zk_l, zk_r, Option.toList_some, Option.toList_none, List.cons_append, List.nil_append, zrokB, zrokB0, zrokB1, zrokJ0, zrokJ1, and_true, true_and, and_self, if_true, if_false, b2_0, b2_1, b2_not, ite_self, Int.add_zero, jI_nat, jI_add, jI_sub, jI_mul, jI_neg, jI_lt, jI_le, jI_eq, jI_lt0, jI_0lt, jI_le0, jI_0le, jI_eq0, jI_in, jI_dv, i_mod, jI_cl, jm_n, jz_n, i_lit, i_c0, i_c1, Int.toNat_of_nonneg, Int.toNat_natCast, jrow_same, jrow_ne, jrow_jrow, sset_eq, sset_ne]
        refine (sp_191b (J := K2) (by omega) (by omega)).trans ?_
        simp only [zk_l, zk_r, Option.toList_some, Option.toList_none, List.cons_append, List.nil_append, zrokB, zrokB0, zrokB1, zrokJ0, zrokJ1, and_true, true_and, and_self, if_true, if_false, b2_0, b2_1, b2_not, ite_self]
        rw [sg_209_43 (hqt0 := h_356), sg_209_44, jI_in (by decide) (by decide) (by decide), jI_cl (by decide) (by decide)]
        simp (disch := first | assumption | omega) only [jz_n, i_lit, true_and]
        rfl
      · show jrow K2 356 _ 353 7 = p
        rw [jrow_ne (by decide)]
        exact q7
    | inr v =>
      obtain ⟨a2, e2⟩ := v
      have hb2 := pSg_e (by omega) hq2
      rw [hq2] at c2
      obtain ⟨rfl, pr2⟩ := c2
      let K2 : zJ := jrow J2 356 (sset (J2 356) 1 a2)
      have prk2 : PR f n K2 e2 := PR_356 pr2
      have htk2 : txt (K2 354) f n := by
        show txt (jrow J2 356 _ 354) f n
        rw [jrow_ne (by decide), f2.1 354 (by decide)]
        exact htk
      obtain ⟨o3, J3, r3, f3, c3⟩ := sp_191g (W := W) (J := K2) (f := f) (n := n) (e := e2) (lo := 0) (hi := 999) htk2 prk2 (by omega) (by omega) (by omega) (by omega) (by omega) (by omega)
      show ∃ J', _ ∧ _ ∧ rSt f n J' (pB (pNu f n 0 999 e2) _)
      have T3 : ∀ (v : Int), o3 = oI v → ∀ Q : zO → zI → Prop, wz W 209 0 [.ref 353] [] (jm J) Q = Q oV (jm (jrow J3 356 (sset (J3 356) 2 v))) := by
        intro v hv Q
        rw [T2 a2 rfl, sg_209_29 (hqt0 := h_356)]
        simp (disch := first | assumption | omega) only [zk_l, zk_r, Option.toList_some, Option.toList_none, List.cons_append, List.nil_append, zrokB, zrokB0, zrokB1, zrokJ0, zrokJ1, and_true, true_and, and_self, if_true, if_false, b2_0, b2_1, b2_not, ite_self, Int.add_zero, jI_nat, jI_add, jI_sub, jI_mul, jI_neg, jI_lt, jI_le, jI_eq, jI_lt0, jI_0lt, jI_le0, jI_0le, jI_eq0, jI_in, jI_dv, i_mod, jI_cl, jm_n, jz_n, i_lit, i_c0, i_c1, Int.toNat_of_nonneg, Int.toNat_natCast, jrow_same, jrow_ne, jrow_jrow, sset_eq, sset_ne]
        refine Eq.trans (r3 _) ?_
        rw [hv]
        simp only [zk_l, zk_r, Option.toList_some, Option.toList_none, List.cons_append, List.nil_append, zrokB, zrokB0, zrokB1, zrokJ0, zrokJ1, and_true, true_and, and_self, if_true, if_false, b2_0, b2_1, b2_not, ite_self]
        rw [sg_209_43 (hqt0 := h_356), sg_209_44, jI_in (by decide) (by decide) (by decide), jI_cl (by decide) (by decide)]
        simp (disch := first | assumption | omega) only [jz_n, i_lit, true_and]
        rfl
      have fF : ∀ g, fT J (jrow J3 356 g) := fun g => fT_t (fT_t (fT_t (fT_t fK (fT_f f2)) fT_356) (fT_f f3)) fT_356
      cases hq3 : pNu f n 0 999 e2 with
      | inl p =>
        rw [hq3] at c3
        obtain ⟨ho, p7⟩ := c3
        refine ⟨_, T3 0 ho, fF _, ?_⟩
        show jrow J3 356 _ 353 7 = p
        rw [jrow_ne (by decide)]
        exact p7
      | inr v =>
        obtain ⟨a3, e3⟩ := v
        rw [hq3] at c3
        obtain ⟨rfl, pr3⟩ := c3
        have q3 : J3 356 = sset s 1 a2 := by
          rw [f3.1 356 (by decide)]
          show jrow J2 356 _ 356 = _
          rw [jrow_same, f2.1 356 (by decide), kn 356 (by decide), s1]
        refine ⟨_, T3 a3 rfl, fF _, PR_356 pr3, by rw [jrow_same, q3], ?_, ?_⟩
        · rw [jrow_ne (by decide), f3.2 11 (by decide)]
          show jrow J2 356 _ 353 11 = _
          rw [jrow_ne (by decide), f2.2 11 (by decide)]
          exact k11
        · rw [jrow_ne (by decide), f3.2 12 (by decide)]
          show jrow J2 356 _ 353 12 = _
          rw [jrow_ne (by decide), f2.2 12 (by decide), k1 12 (by decide), f1.2 12 (by decide)]
          exact h12
theorem sp_210 (ht : txt (J 354) f n) (hp : PR f n J e) (e0 : 0 ≤ e) (e1 : e ≤ n) (hs : J 356 = s) (h11 : J 353 11 = hl) (h12 : J 353 12 = hq) (hO : okR s hl hq) :
    ∃ J', (∀ Q : zO → zI → Prop, wz W 210 0 [.ref 353] [] (jm J) Q = Q oV (jm J')) ∧ fT J J' ∧ rSt f n J' (pQu f n s hl hq e) := by
  have hO' := hO
  obtain ⟨⟨hB, hC, hG, hOo⟩, hN, hL, hh⟩ := hO'
  obtain ⟨x1, x2, x3, x4, x5, x6, x7, x8, x9, x10, x11, x12⟩ := hB
  have hK := hO.1
  have h6a := hL.2.2.2.2.1
  have h6b := hL.2.2.2.2.2.1
  have h86 := hL.2.2.2.1
  have n9 := ht.2.1
  have hS := tqS_b (f := f) e1
  have hE := tqE_b (f := f) e1
  unfold pQu
  have hv : hq = 0 ∨ hq = 1 := by omega
  have T0 : ∀ Q : zO → zI → Prop, wz W 210 0 [.ref 353] [] (jm J) Q = wz W 203 0 [.ref 353, .int (jI (if hq = 1 then 1 else 0))] [] (jm J) (zk Q (fun v I1 => wz W 210 8 [.ref 353] (v.toList ++ []) I1 Q)) := by
    intro Q
    have e9 : jm J 353 12 = jI (if hq = 1 then 1 else 0) := by
      show jI (J 353 12) = _
      rw [h12]
      rcases hv with hv | hv <;> rw [hv] <;> rfl
    rw [sg_210_0, e9]
  by_cases hm : hq = 1
  · refine ⟨jrow J 353 (sset (J 353) 7 (tqS f n e)), fun Q => ?_, fT_7, ?_⟩
    · rw [T0, if_pos hm, sp_203f hp]
      simp only [zk_l, zk_r, Option.toList_some, Option.toList_none, List.cons_append, List.nil_append, zrokB, zrokB0, zrokB1, zrokJ0, zrokJ1, and_true, true_and, and_self, if_true, if_false, b2_0, b2_1, b2_not, ite_self]
      rw [sg_210_8, if_pos (by decide), sg_210_30]
    · rw [if_pos hm]
      exact row7
  · rw [if_neg hm]
    obtain ⟨J1, r1, f1, pr1⟩ := sp_203t (W := W) ht hp e0 e1
    have ht1 : txt (J1 354) f n := by rw [f1.1 354 (by decide)]; exact ht
    have s1 : J1 356 = s := by rw [f1.1 356 (by decide)]; exact hs
    have T1 : ∀ Q : zO → zI → Prop, wz W 210 0 [.ref 353] [] (jm J) Q = wz W 210 8 [.ref 353] [.int (jI 1)] (jm J1) Q := by
      intro Q
      rw [T0, if_neg hm, r1]
      simp only [zk_l, zk_r, Option.toList_some, Option.toList_none, List.cons_append, List.nil_append, zrokB, zrokB0, zrokB1, zrokJ0, zrokJ1, and_true, true_and, and_self, if_true, if_false, b2_0, b2_1, b2_not, ite_self]
    let K1 : zJ := jrow J1 353 (sset (J1 353) 12 1)
    have k1 : ∀ i, i ≠ 12 → K1 353 i = J1 353 i := fun i hi => by
      show jrow J1 353 (sset (J1 353) 12 1) 353 i = _
      rw [jrow_same, sset_ne hi]
    have k11 : K1 353 12 = 1 := by
      show jrow J1 353 (sset (J1 353) 12 1) 353 12 = _
      rw [jrow_same, sset_eq rfl]
    have kn : ∀ r, r ≠ 353 → K1 r = J1 r := fun r hr => jrow_ne hr
    have fK : fT J K1 := ⟨fun r a b => by rw [kn r a]; exact f1.1 r a, fun i hi => by rw [k1 i (by omega)]; exact f1.2 i (by omega)⟩
    have prk : PR f n K1 (tqE f n e) := PR_r pr1 (fun i a b => k1 i (by omega))
    have htk : txt (K1 354) f n := by rw [kn 354 (by decide)]; exact ht1
    obtain ⟨o2, J2, r2, f2, c2⟩ := sp_192g (W := W) (J := K1) (f := f) (n := n) (e := tqE f n e) (lo := (-30)) (hi := 40) htk prk (by omega) (by omega) (by omega) (by omega) (by omega) (by omega)
    show ∃ J', _ ∧ _ ∧ rSt f n J' (pB (pTe f n (-30) 40 (tqE f n e)) _)
    have T2 : ∀ (v : Int), o2 = oI v → ∀ Q : zO → zI → Prop, wz W 210 0 [.ref 353] [] (jm J) Q = Q oV (jm (jrow J2 356 (sset (J2 356) 3 v))) := by
      intro v hv Q
      rw [T1, sg_210_8, if_neg (by decide)]
      simp (disch := first | assumption | omega) only [jz_n, i_lit]
      refine Eq.trans (r2 _) ?_
      rw [hv]
      simp only [zk_l, zk_r, Option.toList_some, Option.toList_none, List.cons_append, List.nil_append, zrokB, zrokB0, zrokB1, zrokJ0, zrokJ1, and_true, true_and, and_self, if_true, if_false, b2_0, b2_1, b2_not, ite_self]
      rw [sg_210_29 (hqt0 := h_356), sg_210_30, jI_in (by decide) (by decide) (by decide), jI_cl (by decide) (by decide)]
      simp (disch := first | assumption | omega) only [jz_n, i_lit, true_and]
      rfl
    have fF : ∀ g, fT J (jrow J2 356 g) := fun g => fT_t (fT_t fK (fT_f f2)) fT_356
    cases hq2 : pTe f n (-30) 40 (tqE f n e) with
    | inl p =>
      rw [hq2] at c2
      obtain ⟨ho, p7⟩ := c2
      refine ⟨_, T2 0 ho, fF _, ?_⟩
      show jrow J2 356 _ 353 7 = p
      rw [jrow_ne (by decide)]
      exact p7
    | inr v =>
      obtain ⟨a2, e2⟩ := v
      rw [hq2] at c2
      obtain ⟨rfl, pr2⟩ := c2
      refine ⟨_, T2 a2 rfl, fF _, PR_356 pr2, by rw [jrow_same, f2.1 356 (by decide), kn 356 (by decide), s1], ?_, ?_⟩
      · rw [jrow_ne (by decide), f2.2 11 (by decide), k1 11 (by decide), f1.2 11 (by decide)]
        exact h11
      · rw [jrow_ne (by decide), f2.2 12 (by decide)]
        exact k11
theorem sp_205 (ht : txt (J 354) f n) (hp : PR f n J e) (e0 : 0 ≤ e) (e1 : e ≤ n) (hs : J 356 = s) (h11 : J 353 11 = hl) (h12 : J 353 12 = hq) (hO : okR s hl hq) :
    ∃ J', (∀ Q : zO → zI → Prop, wz W 205 0 [.ref 353, .float 0, .float 0, .float 0] [] (jm J) Q = Q oV (jm J')) ∧ fT J J' ∧ rSt f n J' (pDr f n s hl hq e) := by
  have hO' := hO
  obtain ⟨⟨hB, hC, hG, hOo⟩, hN, hL, hh⟩ := hO'
  obtain ⟨x1, x2, x3, x4, x5, x6, x7, x8, x9, x10, x11, x12⟩ := hB
  have hK := hO.1
  have h6a := hL.2.2.2.2.1
  have h6b := hL.2.2.2.2.2.1
  have h86 := hL.2.2.2.1
  have n9 := ht.2.1
  have hS := tqS_b (f := f) e1
  have hE := tqE_b (f := f) e1
  unfold pDr
  have hp' := hp
  obtain ⟨p2, p3, p4, p5, p6, p7⟩ := hp'
  obtain ⟨J1, r1, pr1, f1⟩ := sp_185 (W := W) (J := J) (f := f) (n := n) (e := tqE f n e) ht p2 p3 p7 (by omega) (by omega)
  have ht1 : txt (J1 354) f n := by rw [f1.1 354 (by decide)]; exact ht
  have s1 : J1 356 = s := by rw [f1.1 356 (by decide)]; exact hs
  obtain ⟨o2, J2, r2, f2, c2⟩ := sp_201g (W := W) (J := J1) (f := f) (n := n) (e := tqE f n e) ht1 pr1 (by omega) (by omega) s1 hK
  have s2 : J2 356 = s := by rw [f2.1 356 (by decide)]; exact s1
  have ht2 : txt (J2 354) f n := by rw [f2.1 354 (by decide)]; exact ht1
  have T2 : ∀ (v : Int), o2 = oI v → 0 ≤ v → v < 3 → ∀ Q : zO → zI → Prop, wz W 205 0 [.ref 353, .float 0, .float 0, .float 0] [] (jm J) Q = wz W 191 0 [.ref 353, .int (jI 0), .int (jI (s (12 + 8 * v + 1) - 1))] [] (jm J2) (zk Q (fun w I1 => wz W 205 30 [.ref 353, .int (jI (12 + 8 * v)), .float 0, .float 0] (w.toList ++ []) I1 Q)) := by
    intro v hv v0 v1 Q
    rw [sg_205_0, r1]
    simp only [zk_l, zk_r, Option.toList_some, Option.toList_none, List.cons_append, List.nil_append, zrokB, zrokB0, zrokB1, zrokJ0, zrokJ1, and_true, true_and, and_self, if_true, if_false, b2_0, b2_1, b2_not, ite_self]
    rw [sg_205_4, r2, hv]
    simp only [zk_l, zk_r, Option.toList_some, Option.toList_none, List.cons_append, List.nil_append, zrokB, zrokB0, zrokB1, zrokJ0, zrokJ1, and_true, true_and, and_self, if_true, if_false, b2_0, b2_1, b2_not, ite_self]
    rw [sg_205_12]
    simp (disch := first | assumption | omega) only [s2, zk_l, zk_r, Option.toList_some, Option.toList_none, List.cons_append, List.nil_append, zrokB, zrokB0, zrokB1, zrokJ0, zrokJ1, and_true, true_and, and_self, if_true, if_false, b2_0, b2_1, b2_not, ite_self, Int.add_zero, jI_nat, jI_add, jI_sub, jI_mul, jI_neg, jI_lt, jI_le, jI_eq, jI_lt0, jI_0lt, jI_le0, jI_0le, jI_eq0, jI_in, jI_dv, i_mod, jI_cl, jm_n, jz_n, i_lit, i_c0, i_c1, Int.toNat_of_nonneg, Int.toNat_natCast, jrow_same, jrow_ne, jrow_jrow, sset_eq, sset_ne]
  -- a wrong one: the rest does nothing
  have tl : ∀ (J3 : zJ) (x v : Int) (Q : zO → zI → Prop), 0 ≤ x → x < 400 → 0 ≤ J3 353 7 → J3 353 7 ≤ 900 → wz W 205 30 [.ref 353, .int (jI x), .float 0, .float 0] [.int (jI v)] (jm J3) Q = Q oV (jm J3) := by
    intro J3 x v Q x0 x1' q0 q9
    rw [sg_205_30]
    simp (disch := first | assumption | omega) only [zk_l, zk_r, Option.toList_some, Option.toList_none, List.cons_append, List.nil_append, zrokB, zrokB0, zrokB1, zrokJ0, zrokJ1, and_true, true_and, and_self, if_true, if_false, b2_0, b2_1, b2_not, ite_self, Int.add_zero, jI_nat, jI_add, jI_sub, jI_mul, jI_neg, jI_lt, jI_le, jI_eq, jI_lt0, jI_0lt, jI_le0, jI_0le, jI_eq0, jI_in, jI_dv, i_mod, jI_cl, jm_n, jz_n, i_lit, i_c0, i_c1, Int.toNat_of_nonneg, Int.toNat_natCast, jrow_same, jrow_ne, jrow_jrow, sset_eq, sset_ne]
    rw [sp_191b q0 q9]
    simp only [zk_l, zk_r, Option.toList_some, Option.toList_none, List.cons_append, List.nil_append, zrokB, zrokB0, zrokB1, zrokJ0, zrokJ1, and_true, true_and, and_self, if_true, if_false, b2_0, b2_1, b2_not, ite_self]
    rw [sg_205_46, sp_187b q0 q9]
    simp only [zk_l, zk_r, Option.toList_some, Option.toList_none, List.cons_append, List.nil_append, zrokB, zrokB0, zrokB1, zrokJ0, zrokJ1, and_true, true_and, and_self, if_true, if_false, b2_0, b2_1, b2_not, ite_self]
    rw [sg_205_51, if_pos (by decide), sg_205_80]
  show ∃ J', _ ∧ _ ∧ rSt f n J' (pB (pCn f n s (tqE f n e)) _)
  cases hq2 : pCn f n s (tqE f n e) with
  | inl p =>
    rw [hq2] at c2
    obtain ⟨ho, q7⟩ := c2
    have hpb := pCn_l (by omega) (by omega) hq2
    refine ⟨J2, fun Q => ?_, fT_t (fT_f f1) (fT_f f2), q7⟩
    rw [T2 0 ho (by omega) (by omega), sp_191b (by omega) (by omega)]
    simp only [zk_l, zk_r, Option.toList_some, Option.toList_none, List.cons_append, List.nil_append, zrokB, zrokB0, zrokB1, zrokJ0, zrokJ1, and_true, true_and, and_self, if_true, if_false, b2_0, b2_1, b2_not, ite_self]
    exact tl J2 _ 0 Q (by omega) (by omega) (by omega) (by omega)
  | inr v =>
    obtain ⟨a2, e2⟩ := v
    have hb2 := pCn_e (by omega) hq2
    rw [hq2] at c2
    obtain ⟨rfl, pr2⟩ := c2
    obtain ⟨z1, z2, z3, z4, z5⟩ := hC a2 (by omega) (by omega)
    obtain ⟨o3, J3, r3, f3, c3⟩ := sp_191g (W := W) (J := J2) (f := f) (n := n) (e := e2) (lo := 0) (hi := s (12 + 8 * a2 + 1) - 1) ht2 pr2 (by omega) (by omega) (by omega) (by omega) (by omega) (by omega)
    have s3 : J3 356 = s := by rw [f3.1 356 (by decide)]; exact s2
    have ht3 : txt (J3 354) f n := by rw [f3.1 354 (by decide)]; exact ht2
    have T3 : ∀ (v : Int), o3 = oI v → ∀ Q : zO → zI → Prop, wz W 205 0 [.ref 353, .float 0, .float 0, .float 0] [] (jm J) Q = wz W 205 30 [.ref 353, .int (jI (12 + 8 * a2)), .float 0, .float 0] [.int (jI v)] (jm J3) Q := by
      intro v hv Q
      rw [T2 a2 rfl (by omega) (by omega), r3, hv]
      simp only [zk_l, zk_r, Option.toList_some, Option.toList_none, List.cons_append, List.nil_append, zrokB, zrokB0, zrokB1, zrokJ0, zrokJ1, and_true, true_and, and_self, if_true, if_false, b2_0, b2_1, b2_not, ite_self]
    show ∃ J', _ ∧ _ ∧ rSt f n J' (pB (pNu f n 0 (s (12 + 8 * a2 + 1) - 1) e2) _)
    cases hq3 : pNu f n 0 (s (12 + 8 * a2 + 1) - 1) e2 with
    | inl p =>
      rw [hq3] at c3
      obtain ⟨ho, q7⟩ := c3
      have hpb := pSg_p (by omega) (by omega) hq3
      refine ⟨J3, fun Q => ?_, fT_t (fT_t (fT_f f1) (fT_f f2)) (fT_f f3), q7⟩
      rw [T3 0 ho]
      exact tl J3 _ 0 Q (by omega) (by omega) (by omega) (by omega)
    | inr v =>
      obtain ⟨a3, e3⟩ := v
      have hb3 := pSg_e (by omega) hq3
      rw [hq3] at c3
      obtain ⟨rfl, pr3⟩ := c3
      obtain ⟨o4, J4, r4, f4, c4⟩ := sp_191g (W := W) (J := J3) (f := f) (n := n) (e := e3) (lo := 0) (hi := s (12 + 8 * a2 + 2) - 1) ht3 pr3 (by omega) (by omega) (by omega) (by omega) (by omega) (by omega)
      have s4 : J4 356 = s := by rw [f4.1 356 (by decide)]; exact s3
      have T4 : ∀ (v : Int), o4 = oI v → ∀ Q : zO → zI → Prop, wz W 205 0 [.ref 353, .float 0, .float 0, .float 0] [] (jm J) Q = wz W 187 0 [.ref 353] [] (jm J4) (zk Q (fun w I1 => wz W 205 51 [.ref 353, .int (jI (12 + 8 * a2)), .int (jI a3), .int (jI v)] (w.toList ++ []) I1 Q)) := by
        intro v hv Q
        rw [T3 a3 rfl, sg_205_30]
        simp (disch := first | assumption | omega) only [s3, zk_l, zk_r, Option.toList_some, Option.toList_none, List.cons_append, List.nil_append, zrokB, zrokB0, zrokB1, zrokJ0, zrokJ1, and_true, true_and, and_self, if_true, if_false, b2_0, b2_1, b2_not, ite_self, Int.add_zero, jI_nat, jI_add, jI_sub, jI_mul, jI_neg, jI_lt, jI_le, jI_eq, jI_lt0, jI_0lt, jI_le0, jI_0le, jI_eq0, jI_in, jI_dv, i_mod, jI_cl, jm_n, jz_n, i_lit, i_c0, i_c1, Int.toNat_of_nonneg, Int.toNat_natCast, jrow_same, jrow_ne, jrow_jrow, sset_eq, sset_ne]
        rw [r4, hv]
        simp only [zk_l, zk_r, Option.toList_some, Option.toList_none, List.cons_append, List.nil_append, zrokB, zrokB0, zrokB1, zrokJ0, zrokJ1, and_true, true_and, and_self, if_true, if_false, b2_0, b2_1, b2_not, ite_self]
        rw [sg_205_46]
      have fF : fT J J4 := fT_t (fT_t (fT_t (fT_f f1) (fT_f f2)) (fT_f f3)) (fT_f f4)
      show ∃ J', _ ∧ _ ∧ rSt f n J' (pB (pNu f n 0 (s (12 + 8 * a2 + 2) - 1) e3) _)
      cases hq4 : pNu f n 0 (s (12 + 8 * a2 + 2) - 1) e3 with
      | inl p =>
        rw [hq4] at c4
        obtain ⟨ho, q7⟩ := c4
        have hpb := pSg_p (by omega) (by omega) hq4
        refine ⟨J4, fun Q => ?_, fF, q7⟩
        rw [T4 0 ho, sp_187b (by omega) (by omega)]
        simp only [zk_l, zk_r, Option.toList_some, Option.toList_none, List.cons_append, List.nil_append, zrokB, zrokB0, zrokB1, zrokJ0, zrokJ1, and_true, true_and, and_self, if_true, if_false, b2_0, b2_1, b2_not, ite_self]
        rw [sg_205_51, if_pos (by decide), sg_205_80]
      | inr v =>
        obtain ⟨a4, e4⟩ := v
        have hb4 := pSg_e (by omega) hq4
        rw [hq4] at c4
        obtain ⟨rfl, pr4⟩ := c4
        refine ⟨jrow J4 356 (fDr s a2 a3 a4), fun Q => ?_, fT_t fF fT_356, PR_356 pr4, jrow_same, ?_, ?_⟩
        · rw [T4 a4 rfl, sp_187g pr4.2.2.2.2.2]
          simp only [zk_l, zk_r, Option.toList_some, Option.toList_none, List.cons_append, List.nil_append, zrokB, zrokB0, zrokB1, zrokJ0, zrokJ1, and_true, true_and, and_self, if_true, if_false, b2_0, b2_1, b2_not, ite_self]
          rw [sg_205_51, if_neg (by decide)]
          have c6 : jm J4 356 (jI (12 + 8 * a2 + 6)).toNatClampNeg = jI (s (12 + 8 * a2 + 6)) := by
            rw [jm_cl (by omega) (by omega), s4]
          have c2' : jm J4 356 (jI (12 + 8 * a2 + 2)).toNatClampNeg = jI (s (12 + 8 * a2 + 2)) := by
            rw [jm_cl (by omega) (by omega), s4]
          rw [jI_add, jI_add, c6, c2', jI_mul, jI_add, jI_in (by omega) (by omega) (by decide), jI_in (by omega) (by omega) (by decide)]
          have ev : jI (s (12 + 8 * a2 + 6)) ||| (jI 1 <<< (jI (s (12 + 8 * a2 + 2) * a3 + a4) &&& 31)) = jI (dorV (s (12 + 8 * a2 + 6)) (a3 * s (12 + 8 * a2 + 2) + a4)) := by
            rw [Int.mul_comm a3]
            exact (jI_of _).symm
          rw [ev, jz_cl (by omega) (by omega), s4]
          simp only [true_and]
          rw [sg_205_80]
          rfl
        · rw [jrow_ne (by decide), f4.2 11 (by decide), f3.2 11 (by decide), f2.2 11 (by decide), f1.2 11 (by decide)]
          exact h11
        · rw [jrow_ne (by decide), f4.2 12 (by decide), f3.2 12 (by decide), f2.2 12 (by decide), f1.2 12 (by decide)]
          exact h12
/-- readStatement -/
theorem sp_211 (ht : txt (J 354) f n) (hp : PR f n J e) (e0 : 0 ≤ e) (e1 : e ≤ n) (hs : J 356 = s) (h11 : J 353 11 = hl) (h12 : J 353 12 = hq) (hO : okR s hl hq) :
    ∃ J', (∀ Q : zO → zI → Prop, wz W 211 0 [.ref 353] [] (jm J) Q = Q oV (jm J')) ∧ fT J J' ∧ rSt f n J' (pSm f n s hl hq e) := by
  have hw := fun (i : Nat) (hi : i < 7) (Q : zO → zI → Prop) => sp_189 (W := W) (Q := Q) (J := J) hi ht hp e0 e1
  unfold pSm
  have T0 : ∀ Q : zO → zI → Prop, wz W 211 0 [.ref 353] [] (jm J) Q = wz W 211 6 [.ref 353] [.int (b2 (tqW f n e 0))] (jm J) Q := by
    intro Q
    rw [sg_211_0, hw 0 (by decide)]
    simp only [zk_l, zk_r, Option.toList_some, Option.toList_none, List.cons_append, List.nil_append, zrokB, zrokB0, zrokB1, zrokJ0, zrokJ1, and_true, true_and, and_self, if_true, if_false, b2_0, b2_1, b2_not, ite_self]
  cases w0 : tqW f n e 0 with
  | true =>
    rw [w0] at T0
    rw [if_pos rfl]
    obtain ⟨J', hr, hf, hc⟩ := sp_204 (W := W) ht hp e0 e1 hs h11 h12 hO
    refine ⟨J', fun Q => ?_, hf, hc⟩
    rw [T0, sg_211_6, if_neg (by decide), hr]
    simp only [zk_l, zk_r, Option.toList_some, Option.toList_none, List.cons_append, List.nil_append, zrokB, zrokB0, zrokB1, zrokJ0, zrokJ1, and_true, true_and, and_self, if_true, if_false, b2_0, b2_1, b2_not, ite_self]
    rw [sg_211_13, sg_211_116]
  | false =>
    rw [w0] at T0
    rw [if_neg (by decide)]
    have T1 : ∀ Q : zO → zI → Prop, wz W 211 0 [.ref 353] [] (jm J) Q = wz W 211 22 [.ref 353] [.int (b2 (tqW f n e 1))] (jm J) Q := by
      intro Q
      rw [T0, sg_211_6, if_pos (by decide), hw 1 (by decide)]
      simp only [zk_l, zk_r, Option.toList_some, Option.toList_none, List.cons_append, List.nil_append, zrokB, zrokB0, zrokB1, zrokJ0, zrokJ1, and_true, true_and, and_self, if_true, if_false, b2_0, b2_1, b2_not, ite_self]
    cases w1 : tqW f n e 1 with
    | true =>
      rw [w1] at T1
      rw [if_pos rfl]
      obtain ⟨J', hr, hf, hc⟩ := sp_205 (W := W) ht hp e0 e1 hs h11 h12 hO
      refine ⟨J', fun Q => ?_, hf, hc⟩
      rw [T1, sg_211_22, if_neg (by decide), hr]
      simp only [zk_l, zk_r, Option.toList_some, Option.toList_none, List.cons_append, List.nil_append, zrokB, zrokB0, zrokB1, zrokJ0, zrokJ1, and_true, true_and, and_self, if_true, if_false, b2_0, b2_1, b2_not, ite_self]
      rw [sg_211_29, sg_211_116]
    | false =>
      rw [w1] at T1
      rw [if_neg (by decide)]
      have T2 : ∀ Q : zO → zI → Prop, wz W 211 0 [.ref 353] [] (jm J) Q = wz W 211 38 [.ref 353] [.int (b2 (tqW f n e 2))] (jm J) Q := by
        intro Q
        rw [T1, sg_211_22, if_pos (by decide), hw 2 (by decide)]
        simp only [zk_l, zk_r, Option.toList_some, Option.toList_none, List.cons_append, List.nil_append, zrokB, zrokB0, zrokB1, zrokJ0, zrokJ1, and_true, true_and, and_self, if_true, if_false, b2_0, b2_1, b2_not, ite_self]
      cases w2 : tqW f n e 2 with
      | true =>
        rw [w2] at T2
        rw [if_pos rfl]
        obtain ⟨J', hr, hf, hc⟩ := sp_206 (W := W) ht hp e0 e1 hs h11 h12 hO
        refine ⟨J', fun Q => ?_, hf, hc⟩
        rw [T2, sg_211_38, if_neg (by decide), hr]
        simp only [zk_l, zk_r, Option.toList_some, Option.toList_none, List.cons_append, List.nil_append, zrokB, zrokB0, zrokB1, zrokJ0, zrokJ1, and_true, true_and, and_self, if_true, if_false, b2_0, b2_1, b2_not, ite_self]
        rw [sg_211_45, sg_211_116]
      | false =>
        rw [w2] at T2
        rw [if_neg (by decide)]
        have T3 : ∀ Q : zO → zI → Prop, wz W 211 0 [.ref 353] [] (jm J) Q = wz W 211 54 [.ref 353] [.int (b2 (tqW f n e 3))] (jm J) Q := by
          intro Q
          rw [T2, sg_211_38, if_pos (by decide), hw 3 (by decide)]
          simp only [zk_l, zk_r, Option.toList_some, Option.toList_none, List.cons_append, List.nil_append, zrokB, zrokB0, zrokB1, zrokJ0, zrokJ1, and_true, true_and, and_self, if_true, if_false, b2_0, b2_1, b2_not, ite_self]
        cases w3 : tqW f n e 3 with
        | true =>
          rw [w3] at T3
          rw [if_pos rfl]
          obtain ⟨J', hr, hf, hc⟩ := sp_207 (W := W) ht hp e0 e1 hs h11 h12 hO
          refine ⟨J', fun Q => ?_, hf, hc⟩
          rw [T3, sg_211_54, if_neg (by decide), hr]
          simp only [zk_l, zk_r, Option.toList_some, Option.toList_none, List.cons_append, List.nil_append, zrokB, zrokB0, zrokB1, zrokJ0, zrokJ1, and_true, true_and, and_self, if_true, if_false, b2_0, b2_1, b2_not, ite_self]
          rw [sg_211_61, sg_211_116]
        | false =>
          rw [w3] at T3
          rw [if_neg (by decide)]
          have T4 : ∀ Q : zO → zI → Prop, wz W 211 0 [.ref 353] [] (jm J) Q = wz W 211 70 [.ref 353] [.int (b2 (tqW f n e 4))] (jm J) Q := by
            intro Q
            rw [T3, sg_211_54, if_pos (by decide), hw 4 (by decide)]
            simp only [zk_l, zk_r, Option.toList_some, Option.toList_none, List.cons_append, List.nil_append, zrokB, zrokB0, zrokB1, zrokJ0, zrokJ1, and_true, true_and, and_self, if_true, if_false, b2_0, b2_1, b2_not, ite_self]
          cases w4 : tqW f n e 4 with
          | true =>
            rw [w4] at T4
            rw [if_pos rfl]
            obtain ⟨J', hr, hf, hc⟩ := sp_208 (W := W) ht hp e0 e1 hs h11 h12 hO
            refine ⟨J', fun Q => ?_, hf, hc⟩
            rw [T4, sg_211_70, if_neg (by decide), hr]
            simp only [zk_l, zk_r, Option.toList_some, Option.toList_none, List.cons_append, List.nil_append, zrokB, zrokB0, zrokB1, zrokJ0, zrokJ1, and_true, true_and, and_self, if_true, if_false, b2_0, b2_1, b2_not, ite_self]
            rw [sg_211_77, sg_211_116]
          | false =>
            rw [w4] at T4
            rw [if_neg (by decide)]
            have T5 : ∀ Q : zO → zI → Prop, wz W 211 0 [.ref 353] [] (jm J) Q = wz W 211 86 [.ref 353] [.int (b2 (tqW f n e 5))] (jm J) Q := by
              intro Q
              rw [T4, sg_211_70, if_pos (by decide), hw 5 (by decide)]
              simp only [zk_l, zk_r, Option.toList_some, Option.toList_none, List.cons_append, List.nil_append, zrokB, zrokB0, zrokB1, zrokJ0, zrokJ1, and_true, true_and, and_self, if_true, if_false, b2_0, b2_1, b2_not, ite_self]
            cases w5 : tqW f n e 5 with
            | true =>
              rw [w5] at T5
              rw [if_pos rfl]
              obtain ⟨J', hr, hf, hc⟩ := sp_209 (W := W) ht hp e0 e1 hs h11 h12 hO
              refine ⟨J', fun Q => ?_, hf, hc⟩
              rw [T5, sg_211_86, if_neg (by decide), hr]
              simp only [zk_l, zk_r, Option.toList_some, Option.toList_none, List.cons_append, List.nil_append, zrokB, zrokB0, zrokB1, zrokJ0, zrokJ1, and_true, true_and, and_self, if_true, if_false, b2_0, b2_1, b2_not, ite_self]
              rw [sg_211_93, sg_211_116]
            | false =>
              rw [w5] at T5
              rw [if_neg (by decide)]
              have T6 : ∀ Q : zO → zI → Prop, wz W 211 0 [.ref 353] [] (jm J) Q = wz W 211 102 [.ref 353] [.int (b2 (tqW f n e 6))] (jm J) Q := by
                intro Q
                rw [T5, sg_211_86, if_pos (by decide), hw 6 (by decide)]
                simp only [zk_l, zk_r, Option.toList_some, Option.toList_none, List.cons_append, List.nil_append, zrokB, zrokB0, zrokB1, zrokJ0, zrokJ1, and_true, true_and, and_self, if_true, if_false, b2_0, b2_1, b2_not, ite_self]
              cases w6 : tqW f n e 6 with
              | true =>
                rw [w6] at T6
                rw [if_pos rfl]
                obtain ⟨J', hr, hf, hc⟩ := sp_210 (W := W) ht hp e0 e1 hs h11 h12 hO
                refine ⟨J', fun Q => ?_, hf, hc⟩
                rw [T6, sg_211_102, if_neg (by decide), hr]
                simp only [zk_l, zk_r, Option.toList_some, Option.toList_none, List.cons_append, List.nil_append, zrokB, zrokB0, zrokB1, zrokJ0, zrokJ1, and_true, true_and, and_self, if_true, if_false, b2_0, b2_1, b2_not, ite_self]
                rw [sg_211_109, sg_211_116]
              | false =>
                rw [w6] at T6
                rw [if_neg (by decide)]
                refine ⟨jrow J 353 (sset (J 353) 7 (tqS f n e)), fun Q => ?_, fT_7, row7⟩
                rw [T6, sg_211_102, if_pos (by decide), sp_186g hp]
                simp only [zk_l, zk_r, Option.toList_some, Option.toList_none, List.cons_append, List.nil_append, zrokB, zrokB0, zrokB1, zrokJ0, zrokJ1, and_true, true_and, and_self, if_true, if_false, b2_0, b2_1, b2_not, ite_self]
                rw [sg_211_116]
theorem pSm_l {p : Int} (hO : okR s hl hq) (e0 : 0 ≤ e) (e1 : e ≤ n) (h : pSm f n s hl hq e = .inl p) : 0 ≤ p ∧ p ≤ n := by
  have hO' := hO
  obtain ⟨⟨hB, hC, hG, hOo⟩, hN, hL, hh⟩ := hO'
  obtain ⟨x1, x2, x3, x4, x5, x6, x7, x8, x9, x10, x11, x12⟩ := hB
  have hS := tqS_b (f := f) e1
  have hE := tqE_b (f := f) e1
  have key : ∀ {α : Type} (x : Int ⊕ (α × Int)) (g : α → Int → Int ⊕ (pSt × Int)), pB x g = .inl p → x = .inl p ∨ ∃ v e', x = .inr (v, e') ∧ g v e' = .inl p := by
    intro α x g hx
    cases x with
    | inl q => exact Or.inl (by cases hx; rfl)
    | inr v => exact Or.inr ⟨v.1, v.2, rfl, hx⟩
  have hbad : (Sum.inl (tqS f n e) : Int ⊕ (pSt × Int)) = .inl p → 0 ≤ p ∧ p ≤ n := fun h9 => by
    cases h9
    omega
  unfold pSm at h
  split at h
  · unfold pCh at h
    split at h
    · exact hbad h
    · rcases key _ _ h with h1 | ⟨v, e2, h1, h2⟩
      · exact pNm_l (by omega) (by omega) h1
      · have g1 := pNm_e (by omega) h1
        rcases key _ _ h2 with h3 | ⟨v3, e3, h3, h4⟩
        · exact pSg_p (by omega) (by omega) h3
        · have g2 := pSg_e (by omega) h3
          rcases key _ _ h4 with h5 | ⟨v4, e4, h5, h6⟩
          · exact pSg_p (by omega) (by omega) h5
          · have g3 := pSg_e (by omega) h5
            rcases key _ _ h6 with h7 | ⟨v5, e5, h7, h8⟩
            · exact pTe_p (by omega) (by omega) h7
            · cases h8
  · split at h
    · unfold pDr at h
      rcases key _ _ h with h1 | ⟨v, e2, h1, h2⟩
      · exact pCn_l (by omega) (by omega) h1
      · have g1 := pCn_e (by omega) h1
        rcases key _ _ h2 with h3 | ⟨v3, e3, h3, h4⟩
        · exact pSg_p (by omega) (by omega) h3
        · have g2 := pSg_e (by omega) h3
          rcases key _ _ h4 with h5 | ⟨v4, e4, h5, h6⟩
          · exact pSg_p (by omega) (by omega) h5
          · cases h6
    · split at h
      · unfold pGd at h
        split at h
        · exact hbad h
        · rcases key _ _ h with h1 | ⟨v, e2, h1, h2⟩
          · exact pNm_l (by omega) (by omega) h1
          · have g1 := pNm_e (by omega) h1
            rcases key _ _ h2 with h3 | ⟨v3, e3, h3, h4⟩
            · exact pTe_p (by omega) (by omega) h3
            · have g2 := pTe_e (by omega) h3
              rcases key _ _ h4 with h5 | ⟨v4, e4, h5, h6⟩
              · exact pTe_p (by omega) (by omega) h5
              · have g3 := pTe_e (by omega) h5
                rcases key _ _ h6 with h7 | ⟨v5, e5, h7, h8⟩
                · exact pSg_p (by omega) (by omega) h7
                · have g4 := pSg_e (by omega) h7
                  rcases key _ _ h8 with h9 | ⟨v6, e6, h9, h10⟩
                  · exact pSg_p (by omega) (by omega) h9
                  · have g5 := pSg_e (by omega) h9
                    rcases key _ _ h10 with h11 | ⟨v7, e7, h11, h12⟩
                    · exact pSg_p (by omega) (by omega) h11
                    · cases h12
      · split at h
        · unfold pPl at h
          split at h
          · exact hbad h
          · rcases key _ _ h with h1 | ⟨v, e2, h1, h2⟩
            · exact pGn_l (by omega) (by omega) h1
            · cases h2
        · split at h
          · unfold pOr at h
            split at h
            · exact hbad h
            · rcases key _ _ h with h1 | ⟨v, e2, h1, h2⟩
              · exact pGn_l (by omega) (by omega) h1
              · have g1 := pGn_e (by omega) h1
                rcases key _ _ h2 with h3 | ⟨v3, e3, h3, h4⟩
                · exact pSg_p (by omega) (by omega) h3
                · have g2 := pSg_e (by omega) h3
                  rcases key _ _ h4 with h5 | ⟨v4, e4, h5, h6⟩
                  · exact pSg_p (by omega) (by omega) h5
                  · cases h6
          · split at h
            · unfold pLi at h
              split at h
              · exact hbad h
              · rcases key _ _ h with h1 | ⟨v, e2, h1, h2⟩
                · exact pSg_p (by omega) (by omega) h1
                · have g1 := pSg_e (by omega) h1
                  rcases key _ _ h2 with h3 | ⟨v3, e3, h3, h4⟩
                  · exact pSg_p (by omega) (by omega) h3
                  · cases h4
            · split at h
              · unfold pQu at h
                split at h
                · exact hbad h
                · rcases key _ _ h with h1 | ⟨v, e2, h1, h2⟩
                  · exact pTe_p (by omega) (by omega) h1
                  · cases h2
              · exact hbad h
/-- what parse ends in -/
def rRn (J' : zJ) (o : zO) (r : Int ⊕ pSt) : Prop := match r with
  | .inl p => o = oI p ∧ 0 ≤ p
  | .inr s => o = oI (-1) ∧ J' 356 = s.1
theorem sp_212 (n0 : 0 ≤ n) (n9 : n ≤ 900) (ht : txt (J 354) f n) (h2 : J 353 2 = n) :
    ∃ o J', (∀ Q : zO → zI → Prop, wz W 212 0 [.ref 353] [] (jm J) Q = Q o (jm J')) ∧ fT J J' ∧ rRn J' o (pRn f n (n.toNat + 1) (s000 (J 356)) 0 0 0) := by
  -- a statement and what follows
  have main : ∀ (d : Nat) (J1 : zJ) (s : Int → Int) (hl hq e : Int), n + 1 ≤ e + d → 0 ≤ e → e ≤ n → txt (J1 354) f n → PR f n J1 e → J1 356 = s → J1 353 11 = hl → J1 353 12 = hq → okR s hl hq →
      ∃ J2 o J', (∀ Q : zO → zI → Prop, wz W 211 0 [.ref 353] [] (jm J1) Q = Q oV (jm J2)) ∧ (∀ Q : zO → zI → Prop, wz W 212 35 [.ref 353] [] (jm J2) Q = Q o (jm J')) ∧ fT J1 J' ∧ rRn J' o (pRn f n d s hl hq e) := by
    intro d
    induction d with
    | zero => intro J1 s hl hq e hk ke en; omega
    | succ d ih =>
      intro J1 s hl hq e hk ke en ht1 hp1 hs1 h11 h12 hO
      obtain ⟨J2, r2, f2, c2⟩ := sp_211 (W := W) ht1 hp1 ke en hs1 h11 h12 hO
      refine ⟨J2, ?_⟩
      show ∃ o J', _ ∧ _ ∧ _ ∧ rRn J' o (match pSm f n s hl hq e with
        | .inl p => .inl p
        | .inr ((s', hl', hq'), e') => if tqK f n e' = 0 then .inr (s', hl', hq') else if tqG f n e' 59 = true then pRn f n d s' hl' hq' (tqE f n e') else .inl (tqS f n e'))
      cases hsm : pSm f n s hl hq e with
      | inl p =>
        have hpb := pSm_l hO ke en hsm
        rw [hsm] at c2
        have q7 : J2 353 7 = p := c2
        refine ⟨oI p, J2, r2, fun Q => ?_, f2, rfl, hpb.1⟩
        rw [sg_212_35, sp_188b (by omega) (by omega)]
        simp only [zk_l, zk_r, Option.toList_some, Option.toList_none, List.cons_append, List.nil_append, zrokB, zrokB0, zrokB1, zrokJ0, zrokJ1, and_true, true_and, and_self, if_true, if_false, b2_0, b2_1, b2_not, ite_self]
        rw [sg_212_41, if_pos (by decide), sp_187b (by omega) (by omega)]
        simp only [zk_l, zk_r, Option.toList_some, Option.toList_none, List.cons_append, List.nil_append, zrokB, zrokB0, zrokB1, zrokJ0, zrokJ1, and_true, true_and, and_self, if_true, if_false, b2_0, b2_1, b2_not, ite_self]
        rw [sg_212_59, if_pos (by decide), sg_212_73]
        simp (disch := first | assumption | omega) only [q7, jm_n, i_lit]
      | inr v =>
        obtain ⟨⟨s', hl', hq'⟩, e'⟩ := v
        obtain ⟨b1, b3, b4⟩ := pSm_p hO ke en hsm
        rw [hsm] at c2
        obtain ⟨pr2, q356, q11, q12⟩ := c2
        replace q356 : J2 356 = s' := q356
        replace q11 : J2 353 11 = hl' := q11
        replace q12 : J2 353 12 = hq' := q12
        have hK' := tqK_b f n e'
        have hS' := tqS_b (f := f) b3
        have hE' := tqE_b (f := f) b3
        have ht2 : txt (J2 354) f n := by rw [f2.1 354 (by decide) (by decide)]; exact ht1
        have pr2' := pr2
        obtain ⟨p2, p3, p4, p5, p6, p7⟩ := pr2'
        have R2 : ∀ Q : zO → zI → Prop, wz W 212 35 [.ref 353] [] (jm J2) Q = wz W 212 41 [.ref 353] [.int (b2 (tqG f n e' 59))] (jm J2) Q := by
          intro Q
          rw [sg_212_35, sp_188g ht2 pr2 (by omega) b3 (by decide) (by decide)]
          simp only [zk_l, zk_r, Option.toList_some, Option.toList_none, List.cons_append, List.nil_append, zrokB, zrokB0, zrokB1, zrokJ0, zrokJ1, and_true, true_and, and_self, if_true, if_false, b2_0, b2_1, b2_not, ite_self]
        show ∃ o J', _ ∧ _ ∧ _ ∧ rRn J' o (if tqK f n e' = 0 then .inr (s', hl', hq') else if tqG f n e' 59 = true then pRn f n d s' hl' hq' (tqE f n e') else .inl (tqS f n e'))
        cases hg : tqG f n e' 59 with
        | false =>
          rw [hg] at R2
          have R3 : ∀ Q : zO → zI → Prop, wz W 212 35 [.ref 353] [] (jm J2) Q = (if tqK f n e' = 0 then wz W 212 73 [.ref 353] [] (jm J2) Q else wz W 186 0 [.ref 353] [] (jm J2) (zk Q (fun v I1 => wz W 212 73 [.ref 353] (v.toList ++ []) I1 Q))) := by
            intro Q
            have k5 : jm J2 353 5 = jI (tqK f n e') := by
              show jI (J2 353 5) = _
              rw [p5]
            rw [R2, sg_212_41, if_pos (by decide), sp_187g p7]
            simp only [zk_l, zk_r, Option.toList_some, Option.toList_none, List.cons_append, List.nil_append, zrokB, zrokB0, zrokB1, zrokJ0, zrokJ1, and_true, true_and, and_self, if_true, if_false, b2_0, b2_1, b2_not, ite_self]
            rw [sg_212_59, if_neg (by decide), k5, ifE0 (by omega) (by omega)]
          by_cases c : tqK f n e' = 0
          · rw [if_pos c]
            refine ⟨oI (-1), J2, r2, fun Q => ?_, f2, rfl, q356⟩
            rw [R3, if_pos c, sg_212_73]
            simp (disch := first | assumption | omega) only [p7, jm_n, i_lit]
          · rw [if_neg c, if_neg (by decide)]
            refine ⟨oI (tqS f n e'), jrow J2 353 (sset (J2 353) 7 (tqS f n e')), r2, fun Q => ?_, fT_t f2 fT_7, rfl, by omega⟩
            rw [R3, if_neg c, sp_186g pr2]
            simp only [zk_l, zk_r, Option.toList_some, Option.toList_none, List.cons_append, List.nil_append, zrokB, zrokB0, zrokB1, zrokJ0, zrokJ1, and_true, true_and, and_self, if_true, if_false, b2_0, b2_1, b2_not, ite_self]
            rw [sg_212_73]
            simp (disch := first | assumption | omega) only [row7, jm_n, i_lit]
        | true =>
          rw [hg] at R2
          have h3 : tqK f n e' = 3 := by
            unfold tqG at hg
            rw [Bool.and_eq_true, decide_eq_true_eq] at hg
            exact hg.1
          have hE3 := tqE_3 h3
          have hlt := tqK_lt (f := f) (n := n) (e := e') (by omega)
          obtain ⟨J3, r3, pr3, f3⟩ := sp_185 (W := W) (J := J2) (f := f) (n := n) (e := tqE f n e') ht2 p2 p3 p7 (by omega) (by omega)
          obtain ⟨J4, o, J', r4, r, fr, cc⟩ := ih J3 s' hl' hq' (tqE f n e') (by omega) (by omega) (by omega) (by rw [f3.1 354 (by decide)]; exact ht2) pr3 (by rw [f3.1 356 (by decide)]; exact q356) (by rw [f3.2 11 (by decide)]; exact q11) (by rw [f3.2 12 (by decide)]; exact q12) b4
          rw [if_neg (by omega), if_pos rfl]
          refine ⟨o, J', r2, fun Q => ?_, fT_t (fT_t f2 (fT_f f3)) fr, cc⟩
          rw [R2, sg_212_41, if_neg (by decide), r3]
          simp only [zk_l, zk_r, Option.toList_some, Option.toList_none, List.cons_append, List.nil_append, zrokB, zrokB0, zrokB1, zrokJ0, zrokJ1, and_true, true_and, and_self, if_true, if_false, b2_0, b2_1, b2_not, ite_self]
          rw [sg_212_48, r4]
          simp only [zk_l, zk_r, Option.toList_some, Option.toList_none, List.cons_append, List.nil_append, zrokB, zrokB0, zrokB1, zrokJ0, zrokJ1, and_true, true_and, and_self, if_true, if_false, b2_0, b2_1, b2_not, ite_self]
          rw [sg_212_52]
          exact r Q
  let J0 : zJ := jrow J 353 (sset (sset (sset (sset (J 353) 3 0) 7 (-1)) 11 0) 12 0)
  let J1 : zJ := jrow J0 356 (s000 (J 356))
  have q353 : J1 353 = sset (sset (sset (sset (J 353) 3 0) 7 (-1)) 11 0) 12 0 := by
    show jrow J0 356 _ 353 = _
    rw [jrow_ne (by decide)]
    exact jrow_same
  have q356 : J1 356 = s000 (J 356) := jrow_same
  have q354 : J1 354 = J 354 := by
    show jrow J0 356 _ 354 = _
    rw [jrow_ne (by decide)]
    exact jrow_ne (by decide)
  have f01 : fT J J1 := ⟨fun r a b => by
    show jrow J0 356 _ r = _
    rw [jrow_ne b]
    exact jrow_ne a, fun i hi => by rw [q353, sset_ne (by omega), sset_ne (by omega), sset_ne (by omega), sset_ne (by omega)]⟩
  obtain ⟨J2, r2, pr2, f2⟩ := sp_185 (W := W) (J := J1) (f := f) (n := n) (e := 0) (by rw [q354]; exact ht) (by rw [q353, sset_ne (by decide), sset_ne (by decide), sset_ne (by decide), sset_ne (by decide)]; exact h2) (by rw [q353, sset_ne (by decide), sset_ne (by decide), sset_ne (by decide), sset_eq rfl]) (by rw [q353, sset_ne (by decide), sset_ne (by decide), sset_eq rfl]) (Int.le_refl _) n0
  obtain ⟨J4, o, J', r4, r, fr, cc⟩ := main (n.toNat + 1) J2 (s000 (J 356)) 0 0 0 (by omega) (Int.le_refl _) n0 (by rw [f2.1 354 (by decide), q354]; exact ht) pr2 (by rw [f2.1 356 (by decide)]; exact q356) (by rw [f2.2 11 (by decide), q353, sset_ne (by decide), sset_eq rfl]) (by rw [f2.2 12 (by decide), q353, sset_eq rfl]) (okR_0 _)
  refine ⟨o, J', fun Q => ?_, fT_t (fT_t f01 (fT_f f2)) fr, cc⟩
  rw [sg_212_0]
  simp (disch := first | assumption | omega) only [jm_n, jz_n, i_lit, i_c0, i_c1, jrow_same, jrow_jrow]
  show wz W 195 0 [.ref 356, .float 0] [] (jm J0) _ = _
  rw [sp_195 h_356]
  show zk Q _ oV (jm J1) = _
  simp only [zk_l, zk_r, Option.toList_some, Option.toList_none, List.cons_append, List.nil_append, zrokB, zrokB0, zrokB1, zrokJ0, zrokJ1, and_true, true_and, and_self, if_true, if_false, b2_0, b2_1, b2_not, ite_self]
  rw [sg_212_27, r2]
  simp only [zk_l, zk_r, Option.toList_some, Option.toList_none, List.cons_append, List.nil_append, zrokB, zrokB0, zrokB1, zrokJ0, zrokJ1, and_true, true_and, and_self, if_true, if_false, b2_0, b2_1, b2_not, ite_self]
  rw [sg_212_31, r4]
  simp only [zk_l, zk_r, Option.toList_some, Option.toList_none, List.cons_append, List.nil_append, zrokB, zrokB0, zrokB1, zrokJ0, zrokJ1, and_true, true_and, and_self, if_true, if_false, b2_0, b2_1, b2_not, ite_self]
  exact r Q
end
