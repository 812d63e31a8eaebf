/-! ===== the reference's text ===== -/
theorem and_iff_r {p q : Prop} (h : p) : (p ∧ q) = q := propext ⟨fun x => x.2, fun x => ⟨h, x⟩⟩
section
variable {W : zW} {J : zJ} {Q : zO → zI → Prop} {k D : Int}
theorem t55 {l : List (List Int32)} : cT 353 21 22 23 J l 355 = J 355 := cT_ne (p := 353) (q := 355) (by decide) _ _
theorem s55 {l : List (List Int32)} {m : List Int32} : cS 353 21 22 23 (cT 353 21 22 23 J l) m 355 = J 355 := (cS_ne (p := 353) (q := 355) (by decide)).trans t55
theorem jT55 {l : List (List Int32)} : jm (cT 353 21 22 23 J l) 355 = jm J 355 := jmT (p := 353) (q := 355) (by decide)
theorem jS55 {l : List (List Int32)} {m : List Int32} : jm (cS 353 21 22 23 (cT 353 21 22 23 J l) m) 355 = jm J 355 := (jmS (p := 353) (q := 355) (by decide)).trans jT55
theorem sp_319 (hK : okK (J 355)) (hT : okT k (J 355)) : wz W 319 0 [.ref 353, .float 0, .float 0] [] (jm J) Q = Q oV (jm (cT 353 21 22 23 J (chs (J 355) (J 355 4).toNat ++ dors (J 355) (J 355 4).toNat))) := by
  obtain ⟨b1, b2x, b3, b4, b5, b6, b7, b8, b9, b10, b11, b12⟩ := hK.1
  have key := zloop (f := fun i => wz W 319 2 [.ref 353, .int (jI i), .float 0] [] (jm (cT 353 21 22 23 J (chs (J 355) i))) Q) (J 355 4).toNat (fun i hi => by
    try simp only
    obtain ⟨c1, c2, c3, c4, c5, c6, -⟩ := hK.2.1 i (by omega) (by omega)
    have ht := hT i (by omega) (by omega)
    rw [sg_319_2]
    simp (disch := first | assumption | omega) only [t55, zk_l, zk_r, Option.toList_some, Option.toList_none, List.cons_append, List.nil_append, zrokB, zrokB0, zrokB1, zrokJ0, zrokJ1, and_true, true_and, and_self, if_true, if_false, b2_0, b2_1, b2_not, ite_self, Int.add_zero, jI_nat, jI_add, jI_sub, jI_mul, jI_neg, jI_lt, jI_le, jI_eq, jI_lt0, jI_0lt, jI_le0, jI_0le, jI_eq0, jI_in, jI_dv, i_mod, jI_cl, jm_n, jz_n, i_lit, i_c0, i_c1, Int.toNat_of_nonneg, Int.toNat_natCast, jrow_same, jrow_ne, jrow_jrow, sset_eq, sset_ne]
    rw [if_neg (by omega), sp_317 (i := 0) (by decide)]
    simp only [zk_l, zk_r, Option.toList_some, Option.toList_none, List.cons_append, List.nil_append, zrokB, zrokB0, zrokB1, zrokJ0, zrokJ1, and_true, true_and, and_self, if_true, if_false, b2_0, b2_1, b2_not, ite_self]
    rw [sg_319_18, sp_219 (c := (i : Int)) (k := 0) (by omega) (by omega) (by omega) (by omega), s55, Int.add_zero]
    simp only [zk_l, zk_r, Option.toList_some, Option.toList_none, List.cons_append, List.nil_append, zrokB, zrokB0, zrokB1, zrokJ0, zrokJ1, and_true, true_and, and_self, if_true, if_false, b2_0, b2_1, b2_not, ite_self]
    rw [sg_319_25, sp_318]
    simp only [zk_l, zk_r, Option.toList_some, Option.toList_none, List.cons_append, List.nil_append, zrokB, zrokB0, zrokB1, zrokJ0, zrokJ1, and_true, true_and, and_self, if_true, if_false, b2_0, b2_1, b2_not, ite_self]
    rw [cS_cw, sg_319_28, sp_219 (c := (i : Int)) (k := 1) (by omega) (by omega) (by omega) (by omega), s55]
    simp only [zk_l, zk_r, Option.toList_some, Option.toList_none, List.cons_append, List.nil_append, zrokB, zrokB0, zrokB1, zrokJ0, zrokJ1, and_true, true_and, and_self, if_true, if_false, b2_0, b2_1, b2_not, ite_self]
    rw [sg_319_35, sp_316 (by omega) (by omega)]
    simp only [zk_l, zk_r, Option.toList_some, Option.toList_none, List.cons_append, List.nil_append, zrokB, zrokB0, zrokB1, zrokJ0, zrokJ1, and_true, true_and, and_self, if_true, if_false, b2_0, b2_1, b2_not, ite_self]
    rw [cS_cw, sg_319_38, sp_219 (c := (i : Int)) (k := 2) (by omega) (by omega) (by omega) (by omega), s55]
    simp only [zk_l, zk_r, Option.toList_some, Option.toList_none, List.cons_append, List.nil_append, zrokB, zrokB0, zrokB1, zrokJ0, zrokJ1, and_true, true_and, and_self, if_true, if_false, b2_0, b2_1, b2_not, ite_self]
    rw [sg_319_45, sp_316 (by omega) (by omega)]
    simp only [zk_l, zk_r, Option.toList_some, Option.toList_none, List.cons_append, List.nil_append, zrokB, zrokB0, zrokB1, zrokJ0, zrokJ1, and_true, true_and, and_self, if_true, if_false, b2_0, b2_1, b2_not, ite_self]
    rw [cS_cw, sg_319_48, sp_219 (c := (i : Int)) (k := 3) (by omega) (by omega) (by omega) (by omega), s55]
    simp only [zk_l, zk_r, Option.toList_some, Option.toList_none, List.cons_append, List.nil_append, zrokB, zrokB0, zrokB1, zrokJ0, zrokJ1, and_true, true_and, and_self, if_true, if_false, b2_0, b2_1, b2_not, ite_self]
    rw [sg_319_55, sp_316 (by omega) (by omega)]
    simp only [zk_l, zk_r, Option.toList_some, Option.toList_none, List.cons_append, List.nil_append, zrokB, zrokB0, zrokB1, zrokJ0, zrokJ1, and_true, true_and, and_self, if_true, if_false, b2_0, b2_1, b2_not, ite_self]
    rw [cS_cw, sg_319_58, jI_add, show chs (J 355) (i + 1) = chs (J 355) i ++ [chT (J 355) i] from rfl, cT_1]
    rfl)
  have outer : ∀ m : Nat, m ≤ (J 355 4).toNat → ∀ x2 : Value, wz W 319 66 [.ref 353, .int (jI ((J 355 4).toNat - m : Nat)), x2] [] (jm (cT 353 21 22 23 J (chs (J 355) (J 355 4).toNat ++ dors (J 355) ((J 355 4).toNat - m)))) Q = Q oV (jm (cT 353 21 22 23 J (chs (J 355) (J 355 4).toNat ++ dors (J 355) (J 355 4).toNat))) := by
    intro m
    induction m with
    | zero =>
      intro _ x2
      rw [sg_319_66]
      simp (disch := first | assumption | omega) only [t55, zk_l, zk_r, Option.toList_some, Option.toList_none, List.cons_append, List.nil_append, zrokB, zrokB0, zrokB1, zrokJ0, zrokJ1, and_true, true_and, and_self, if_true, if_false, b2_0, b2_1, b2_not, ite_self, Int.add_zero, jI_nat, jI_add, jI_sub, jI_mul, jI_neg, jI_lt, jI_le, jI_eq, jI_lt0, jI_0lt, jI_le0, jI_0le, jI_eq0, jI_in, jI_dv, i_mod, jI_cl, jm_n, jz_n, i_lit, i_c0, i_c1, Int.toNat_of_nonneg, Int.toNat_natCast, jrow_same, jrow_ne, jrow_jrow, sset_eq, sset_ne]
      rw [if_pos (by omega), Nat.sub_zero]
    | succ m ih =>
      intro hm x2
      have ih := ih (by omega)
      have hl : (J 355 4).toNat - m = ((J 355 4).toNat - (m + 1)) + 1 := by omega
      rw [hl] at ih
      have hi1 : (((J 355 4).toNat - (m + 1) : Nat) : Int) < J 355 4 := by omega
      have hch : chs (J 355) (J 355 4).toNat = chs (J 355) (J 355 4).toNat := rfl
      generalize chs (J 355) (J 355 4).toNat = ch0 at *
      generalize hii : (J 355 4).toNat - (m + 1) = i at *
      obtain ⟨c1, c2, c3, c4, c5, c6, -⟩ := hK.2.1 i (by omega) (by omega)
      obtain ⟨en, n1, n2, rr1, rr2, w1, w2, c3'⟩ := nC_eq hK (c := i) (by omega) hi1
      rw [sg_319_66]
      simp (disch := first | assumption | omega) only [t55, zk_l, zk_r, Option.toList_some, Option.toList_none, List.cons_append, List.nil_append, zrokB, zrokB0, zrokB1, zrokJ0, zrokJ1, and_true, true_and, and_self, if_true, if_false, b2_0, b2_1, b2_not, ite_self, Int.add_zero, jI_nat, jI_add, jI_sub, jI_mul, jI_neg, jI_lt, jI_le, jI_eq, jI_lt0, jI_0lt, jI_le0, jI_0le, jI_eq0, jI_in, jI_dv, i_mod, jI_cl, jm_n, jz_n, i_lit, i_c0, i_c1, Int.toNat_of_nonneg, Int.toNat_natCast, jrow_same, jrow_ne, jrow_jrow, sset_eq, sset_ne]
      rw [if_neg (by omega)]
      have cells : ∀ n : Nat, n ≤ nC (J 355) i → wz W 319 78 [.ref 353, .int (jI i), .int (jI (nC (J 355) i - n : Nat))] [] (jm (cT 353 21 22 23 J (ch0 ++ (dors (J 355) i ++ dor (J 355) i (nC (J 355) i - n))))) Q = Q oV (jm (cT 353 21 22 23 J (ch0 ++ dors (J 355) (J 355 4).toNat))) := by
        intro n
        induction n with
        | zero =>
          intro _
          rw [sg_319_78, sp_225k (J := cT 353 21 22 23 J (ch0 ++ (dors (J 355) i ++ dor (J 355) i (nC (J 355) i - 0)))) (by rw [t55]; exact hK) (by omega) (by rw [t55]; exact hi1), t55]
          simp only [zk_l, zk_r, Option.toList_some, Option.toList_none, List.cons_append, List.nil_append, zrokB, zrokB0, zrokB1, zrokJ0, zrokJ1, and_true, true_and, and_self, if_true, if_false, b2_0, b2_1, b2_not, ite_self]
          rw [sg_319_84, if_pos (by rw [jI_le (by omega) (by omega) (by omega) (by omega)]; omega), jI_add]
          exact ih _
        | succ n ih2 =>
          intro hn
          have ih2 := ih2 (by omega)
          have hl2 : nC (J 355) i - n = (nC (J 355) i - (n + 1)) + 1 := by omega
          rw [hl2] at ih2
          have hll : nC (J 355) i - (n + 1) < nC (J 355) i := by omega
          generalize nC (J 355) i - (n + 1) = l at *
          have hdo : dor (J 355) i (l + 1) = dor (J 355) i l ++ (if drs (J 355) i (l : Int) = true then [doT (J 355) i (l : Int)] else []) := rfl
          rw [hdo] at ih2
          rw [sg_319_78, sp_225k (J := cT 353 21 22 23 J (ch0 ++ (dors (J 355) i ++ dor (J 355) i l))) (by rw [t55]; exact hK) (by omega) (by rw [t55]; exact hi1), t55]
          simp only [zk_l, zk_r, Option.toList_some, Option.toList_none, List.cons_append, List.nil_append, zrokB, zrokB0, zrokB1, zrokJ0, zrokJ1, and_true, true_and, and_self, if_true, if_false, b2_0, b2_1, b2_not, ite_self]
          rw [sg_319_84, if_neg (by rw [jI_le (by omega) (by omega) (by omega) (by omega)]; omega), sp_219 (c := (i : Int)) (k := 6) (by omega) (by omega) (by omega) (by omega), t55]
          simp only [zk_l, zk_r, Option.toList_some, Option.toList_none, List.cons_append, List.nil_append, zrokB, zrokB0, zrokB1, zrokJ0, zrokJ1, and_true, true_and, and_self, if_true, if_false, b2_0, b2_1, b2_not, ite_self]
          rw [sg_319_94, sp_177 (by omega) (by omega)]
          simp only [zk_l, zk_r, Option.toList_some, Option.toList_none, List.cons_append, List.nil_append, zrokB, zrokB0, zrokB1, zrokJ0, zrokJ1, and_true, true_and, and_self, if_true, if_false, b2_0, b2_1, b2_not, ite_self]
          have hb9 : bt (jI (J 355 (12 + 8 * (i : Int) + 6))) (l : Int).toNat = drs (J 355) i (l : Int) := rfl
          rw [hb9, sg_319_98]
          cases hdr : drs (J 355) i (l : Int)
          · rw [hdr, if_neg (by decide), List.append_nil] at ih2
            rw [if_pos (by decide), sg_319_141, jI_add]
            exact ih2
          · rw [hdr, if_pos rfl, ← List.append_assoc, ← List.append_assoc, cT_1] at ih2
            rw [← List.append_assoc, if_neg (by decide), sp_317 (i := 1) (by decide)]
            simp only [zk_l, zk_r, Option.toList_some, Option.toList_none, List.cons_append, List.nil_append, zrokB, zrokB0, zrokB1, zrokJ0, zrokJ1, and_true, true_and, and_self, if_true, if_false, b2_0, b2_1, b2_not, ite_self]
            have hg : gC (J 355) i = J 355 (12 + 8 * (i : Int) + 2) := rfl
            have hq : 0 ≤ (l : Int) / gC (J 355) i ∧ (l : Int) / gC (J 355) i ≤ 24 ∧ 0 ≤ (l : Int) % gC (J 355) i ∧ (l : Int) % gC (J 355) i ≤ 24 := by
              obtain h | h | h | h : gC (J 355) i = 1 ∨ gC (J 355) i = 2 ∨ gC (J 355) i = 3 ∨ gC (J 355) i = 4 := by omega
              all_goals
                rw [h]
                omega
            rw [sg_319_107, sp_219 (c := (i : Int)) (k := 0) (by omega) (by omega) (by omega) (by omega), s55, Int.add_zero]
            simp only [zk_l, zk_r, Option.toList_some, Option.toList_none, List.cons_append, List.nil_append, zrokB, zrokB0, zrokB1, zrokJ0, zrokJ1, and_true, true_and, and_self, if_true, if_false, b2_0, b2_1, b2_not, ite_self]
            rw [sg_319_114, sp_318]
            simp only [zk_l, zk_r, Option.toList_some, Option.toList_none, List.cons_append, List.nil_append, zrokB, zrokB0, zrokB1, zrokJ0, zrokJ1, and_true, true_and, and_self, if_true, if_false, b2_0, b2_1, b2_not, ite_self]
            rw [cS_cw, sg_319_117, sp_219 (c := (i : Int)) (k := 2) (by omega) (by omega) (by omega) (by omega), s55, ← hg]
            simp only [zk_l, zk_r, Option.toList_some, Option.toList_none, List.cons_append, List.nil_append, zrokB, zrokB0, zrokB1, zrokJ0, zrokJ1, and_true, true_and, and_self, if_true, if_false, b2_0, b2_1, b2_not, ite_self]
            rw [sg_319_125]
            simp (disch := first | assumption | omega) only [jI_dv]
            have hne : jI (gC (J 355) i) ≠ 0 := by
              intro h
              have := (jI_eq0 (a := gC (J 355) i) (by omega) (by omega)).mp h
              omega
            rw [and_iff_r hne, sp_316 (by omega) (by omega)]
            simp only [zk_l, zk_r, Option.toList_some, Option.toList_none, List.cons_append, List.nil_append, zrokB, zrokB0, zrokB1, zrokJ0, zrokJ1, and_true, true_and, and_self, if_true, if_false, b2_0, b2_1, b2_not, ite_self]
            rw [cS_cw, sg_319_129, sp_219 (c := (i : Int)) (k := 2) (by omega) (by omega) (by omega) (by omega), s55, ← hg]
            simp only [zk_l, zk_r, Option.toList_some, Option.toList_none, List.cons_append, List.nil_append, zrokB, zrokB0, zrokB1, zrokJ0, zrokJ1, and_true, true_and, and_self, if_true, if_false, b2_0, b2_1, b2_not, ite_self]
            rw [sg_319_137]
            simp (disch := first | assumption | omega) only [Int.add_zero, jI_nat, jI_add, jI_sub, jI_mul, jI_neg, jI_lt, jI_le, jI_eq, jI_lt0, jI_0lt, jI_le0, jI_0le, jI_eq0, jI_in, jI_dv, i_mod]
            rw [and_iff_r hne, sp_316 (by omega) (by omega)]
            simp only [zk_l, zk_r, Option.toList_some, Option.toList_none, List.cons_append, List.nil_append, zrokB, zrokB0, zrokB1, zrokJ0, zrokJ1, and_true, true_and, and_self, if_true, if_false, b2_0, b2_1, b2_not, ite_self]
            rw [cS_cw, sg_319_141, jI_add]
            exact ih2
      have h0 := cells (nC (J 355) i) (Nat.le_refl _)
      rw [Nat.sub_self] at h0
      have e0 : dors (J 355) i ++ dor (J 355) i 0 = dors (J 355) i := List.append_nil _
      rw [e0] at h0
      exact h0
  rw [sg_319_0]
  refine Eq.trans key ?_
  rw [sg_319_2]
  simp (disch := first | assumption | omega) only [t55, zk_l, zk_r, Option.toList_some, Option.toList_none, List.cons_append, List.nil_append, zrokB, zrokB0, zrokB1, zrokJ0, zrokJ1, and_true, true_and, and_self, if_true, if_false, b2_0, b2_1, b2_not, ite_self, Int.add_zero, jI_nat, jI_add, jI_sub, jI_mul, jI_neg, jI_lt, jI_le, jI_eq, jI_lt0, jI_0lt, jI_le0, jI_0le, jI_eq0, jI_in, jI_dv, i_mod, jI_cl, jm_n, jz_n, i_lit, i_c0, i_c1, Int.toNat_of_nonneg, Int.toNat_natCast, jrow_same, jrow_ne, jrow_jrow, sset_eq, sset_ne]
  rw [if_pos (by omega)]
  have h0 := outer (J 355 4).toNat (Nat.le_refl _) (.float 0)
  rw [Nat.sub_self] at h0
  have e0 : chs (J 355) (J 355 4).toNat ++ dors (J 355) 0 = chs (J 355) (J 355 4).toNat := List.append_nil _
  rw [e0] at h0
  exact h0
theorem sp_320 (hK : okK (J 355)) (hD : okD D k (J 355)) : wz W 320 0 [.ref 353, .float 0, .float 0] [] (jm J) Q = Q oV (jm (cT 353 21 22 23 J (gds (J 355) (J 355 5).toNat ++ pls (J 355) (J 355 8).toNat ++ ors (J 355) (J 355 7).toNat))) := by
  obtain ⟨⟨a1, a2, a3, a4, a5, a6⟩, hT, hV, hP, hW, hL, hQ, hN⟩ := hD
  obtain ⟨b1, b2x, b3, b4, b5, b6, b7, b8, b9, b10, b11, b12⟩ := hK.1
  have ord : ∀ (x2 : Value) (l : List (List Int32)), wz W 320 108 [.ref 353, .int (jI 0), x2] [] (jm (cT 353 21 22 23 J l)) Q = Q oV (jm (cT 353 21 22 23 J (l ++ ors (J 355) (J 355 7).toNat))) := by
    intro x2 l
    have key := zloop (f := fun i => wz W 320 108 [.ref 353, .int (jI i), x2] [] (jm (cT 353 21 22 23 J (l ++ ors (J 355) i))) Q) (J 355 7).toNat (fun i hi => by
      try simp only
      obtain ⟨o1, o2, o3, o4, o5, o6⟩ := hK.2.2.2 i (by omega) (by omega)
      have hv := hV i (by omega) (by omega)
      obtain ⟨d1, d2, d3, d4, d5, d6, d7, d8, d9, d10, d11⟩ := hK.2.2.1 _ o1 o2
      have hor : ors (J 355) (i + 1) = ors (J 355) i ++ (if J 355 (352 + 4 * (i : Int) + 3) = 0 then [orT (J 355) i] else []) := rfl
      rw [sg_320_108, hor]
      simp (disch := first | assumption | omega) only [t55, zk_l, zk_r, Option.toList_some, Option.toList_none, List.cons_append, List.nil_append, zrokB, zrokB0, zrokB1, zrokJ0, zrokJ1, and_true, true_and, and_self, if_true, if_false, b2_0, b2_1, b2_not, ite_self, Int.add_zero, jI_nat, jI_add, jI_sub, jI_mul, jI_neg, jI_lt, jI_le, jI_eq, jI_lt0, jI_0lt, jI_le0, jI_0le, jI_eq0, jI_in, jI_dv, i_mod, jI_cl, jm_n, jz_n, i_lit, i_c0, i_c1, Int.toNat_of_nonneg, Int.toNat_natCast, jrow_same, jrow_ne, jrow_jrow, sset_eq, sset_ne]
      rw [if_neg (by omega)]
      by_cases q : J 355 (352 + 4 * (i : Int) + 3) = 0
      · rw [if_pos q, if_pos q, sp_317 (i := 4) (by decide)]
        simp only [zk_l, zk_r, Option.toList_some, Option.toList_none, List.cons_append, List.nil_append, zrokB, zrokB0, zrokB1, zrokJ0, zrokJ1, and_true, true_and, and_self, if_true, if_false, b2_0, b2_1, b2_not, ite_self]
        rw [sg_320_142]
        simp (disch := first | assumption | omega) only [s55, zk_l, zk_r, Option.toList_some, Option.toList_none, List.cons_append, List.nil_append, zrokB, zrokB0, zrokB1, zrokJ0, zrokJ1, and_true, true_and, and_self, if_true, if_false, b2_0, b2_1, b2_not, ite_self, Int.add_zero, jI_nat, jI_add, jI_sub, jI_mul, jI_neg, jI_lt, jI_le, jI_eq, jI_lt0, jI_0lt, jI_le0, jI_0le, jI_eq0, jI_in, jI_dv, i_mod, jI_cl, jm_n, jz_n, i_lit, i_c0, i_c1, Int.toNat_of_nonneg, Int.toNat_natCast, jrow_same, jrow_ne, jrow_jrow, sset_eq, sset_ne]
        rw [sp_220 (c := J 355 (352 + 4 * (i : Int))) (k := 0) (by omega) (by omega) (by omega), s55]
        simp only [Int.add_zero, zk_l, zk_r, Option.toList_some, Option.toList_none, List.cons_append, List.nil_append, zrokB, zrokB0, zrokB1, zrokJ0, zrokJ1, and_true, true_and, and_self, if_true, if_false, b2_0, b2_1, b2_not, ite_self]
        rw [sg_320_160, sp_318]
        simp only [zk_l, zk_r, Option.toList_some, Option.toList_none, List.cons_append, List.nil_append, zrokB, zrokB0, zrokB1, zrokJ0, zrokJ1, and_true, true_and, and_self, if_true, if_false, b2_0, b2_1, b2_not, ite_self]
        rw [cS_cw, sg_320_163]
        simp (disch := first | assumption | omega) only [s55, zk_l, zk_r, Option.toList_some, Option.toList_none, List.cons_append, List.nil_append, zrokB, zrokB0, zrokB1, zrokJ0, zrokJ1, and_true, true_and, and_self, if_true, if_false, b2_0, b2_1, b2_not, ite_self, Int.add_zero, jI_nat, jI_add, jI_sub, jI_mul, jI_neg, jI_lt, jI_le, jI_eq, jI_lt0, jI_0lt, jI_le0, jI_0le, jI_eq0, jI_in, jI_dv, i_mod, jI_cl, jm_n, jz_n, i_lit, i_c0, i_c1, Int.toNat_of_nonneg, Int.toNat_natCast, jrow_same, jrow_ne, jrow_jrow, sset_eq, sset_ne]
        rw [sp_316 (by omega) (by omega)]
        simp only [zk_l, zk_r, Option.toList_some, Option.toList_none, List.cons_append, List.nil_append, zrokB, zrokB0, zrokB1, zrokJ0, zrokJ1, and_true, true_and, and_self, if_true, if_false, b2_0, b2_1, b2_not, ite_self]
        rw [cS_cw, sg_320_181]
        simp (disch := first | assumption | omega) only [s55, zk_l, zk_r, Option.toList_some, Option.toList_none, List.cons_append, List.nil_append, zrokB, zrokB0, zrokB1, zrokJ0, zrokJ1, and_true, true_and, and_self, if_true, if_false, b2_0, b2_1, b2_not, ite_self, Int.add_zero, jI_nat, jI_add, jI_sub, jI_mul, jI_neg, jI_lt, jI_le, jI_eq, jI_lt0, jI_0lt, jI_le0, jI_0le, jI_eq0, jI_in, jI_dv, i_mod, jI_cl, jm_n, jz_n, i_lit, i_c0, i_c1, Int.toNat_of_nonneg, Int.toNat_natCast, jrow_same, jrow_ne, jrow_jrow, sset_eq, sset_ne]
        rw [sp_316 (by omega) (by omega)]
        simp only [zk_l, zk_r, Option.toList_some, Option.toList_none, List.cons_append, List.nil_append, zrokB, zrokB0, zrokB1, zrokJ0, zrokJ1, and_true, true_and, and_self, if_true, if_false, b2_0, b2_1, b2_not, ite_self]
        rw [cS_cw, sg_320_199, jI_add, ← List.append_assoc, cT_1]
        rfl
      · rw [if_neg q, if_neg q, sg_320_199, jI_add, List.append_nil]
        rfl)
    have e0 : l ++ ors (J 355) 0 = l := List.append_nil _
    simp only [e0] at key
    refine Eq.trans key ?_
    rw [sg_320_108]
    simp (disch := first | assumption | omega) only [t55, zk_l, zk_r, Option.toList_some, Option.toList_none, List.cons_append, List.nil_append, zrokB, zrokB0, zrokB1, zrokJ0, zrokJ1, and_true, true_and, and_self, if_true, if_false, b2_0, b2_1, b2_not, ite_self, Int.add_zero, jI_nat, jI_add, jI_sub, jI_mul, jI_neg, jI_lt, jI_le, jI_eq, jI_lt0, jI_0lt, jI_le0, jI_0le, jI_eq0, jI_in, jI_dv, i_mod, jI_cl, jm_n, jz_n, i_lit, i_c0, i_c1, Int.toNat_of_nonneg, Int.toNat_natCast, jrow_same, jrow_ne, jrow_jrow, sset_eq, sset_ne]
    rw [if_pos (by omega)]
  have pal : ∀ (x2 : Value) (l : List (List Int32)), wz W 320 59 [.ref 353, .int (jI 0), x2] [] (jm (cT 353 21 22 23 J l)) Q = Q oV (jm (cT 353 21 22 23 J (l ++ pls (J 355) (J 355 8).toNat ++ ors (J 355) (J 355 7).toNat))) := by
    intro x2 l
    have key := zloop (f := fun i => wz W 320 59 [.ref 353, .int (jI i), x2] [] (jm (cT 353 21 22 23 J (l ++ pls (J 355) i))) Q) (J 355 8).toNat (fun i hi => by
      try simp only
      obtain ⟨q1, q2, q3⟩ := hQ.1 i (by omega) (by omega)
      obtain ⟨p1, p2, -⟩ := hP _ q1 q2
      rw [sg_320_59]
      simp (disch := first | assumption | omega) only [t55, zk_l, zk_r, Option.toList_some, Option.toList_none, List.cons_append, List.nil_append, zrokB, zrokB0, zrokB1, zrokJ0, zrokJ1, and_true, true_and, and_self, if_true, if_false, b2_0, b2_1, b2_not, ite_self, Int.add_zero, jI_nat, jI_add, jI_sub, jI_mul, jI_neg, jI_lt, jI_le, jI_eq, jI_lt0, jI_0lt, jI_le0, jI_0le, jI_eq0, jI_in, jI_dv, i_mod, jI_cl, jm_n, jz_n, i_lit, i_c0, i_c1, Int.toNat_of_nonneg, Int.toNat_natCast, jrow_same, jrow_ne, jrow_jrow, sset_eq, sset_ne]
      rw [if_neg (by omega), sp_317 (i := 3) (by decide)]
      simp only [zk_l, zk_r, Option.toList_some, Option.toList_none, List.cons_append, List.nil_append, zrokB, zrokB0, zrokB1, zrokJ0, zrokJ1, and_true, true_and, and_self, if_true, if_false, b2_0, b2_1, b2_not, ite_self]
      rw [sg_320_76]
      simp (disch := first | assumption | omega) only [s55, zk_l, zk_r, Option.toList_some, Option.toList_none, List.cons_append, List.nil_append, zrokB, zrokB0, zrokB1, zrokJ0, zrokJ1, and_true, true_and, and_self, if_true, if_false, b2_0, b2_1, b2_not, ite_self, Int.add_zero, jI_nat, jI_add, jI_sub, jI_mul, jI_neg, jI_lt, jI_le, jI_eq, jI_lt0, jI_0lt, jI_le0, jI_0le, jI_eq0, jI_in, jI_dv, i_mod, jI_cl, jm_n, jz_n, i_lit, i_c0, i_c1, Int.toNat_of_nonneg, Int.toNat_natCast, jrow_same, jrow_ne, jrow_jrow, sset_eq, sset_ne]
      rw [sp_221 (c := J 355 (392 + (i : Int))) (k := 0) (by omega) (by omega) (by omega), s55]
      simp only [Int.add_zero, zk_l, zk_r, Option.toList_some, Option.toList_none, List.cons_append, List.nil_append, zrokB, zrokB0, zrokB1, zrokJ0, zrokJ1, and_true, true_and, and_self, if_true, if_false, b2_0, b2_1, b2_not, ite_self]
      rw [sg_320_93, sp_220 (c := J 355 (72 + 7 * J 355 (392 + (i : Int)))) (k := 0) (by omega) (by omega) (by omega), s55]
      simp only [Int.add_zero, zk_l, zk_r, Option.toList_some, Option.toList_none, List.cons_append, List.nil_append, zrokB, zrokB0, zrokB1, zrokJ0, zrokJ1, and_true, true_and, and_self, if_true, if_false, b2_0, b2_1, b2_not, ite_self]
      rw [sg_320_97, sp_318]
      simp only [zk_l, zk_r, Option.toList_some, Option.toList_none, List.cons_append, List.nil_append, zrokB, zrokB0, zrokB1, zrokJ0, zrokJ1, and_true, true_and, and_self, if_true, if_false, b2_0, b2_1, b2_not, ite_self]
      rw [cS_cw, sg_320_100, jI_add, show pls (J 355) (i + 1) = pls (J 355) i ++ [plT (J 355) i] from rfl, ← List.append_assoc, cT_1]
      rfl)
    have e0 : l ++ pls (J 355) 0 = l := List.append_nil _
    simp only [e0] at key
    refine Eq.trans key ?_
    rw [sg_320_59]
    simp (disch := first | assumption | omega) only [t55, zk_l, zk_r, Option.toList_some, Option.toList_none, List.cons_append, List.nil_append, zrokB, zrokB0, zrokB1, zrokJ0, zrokJ1, and_true, true_and, and_self, if_true, if_false, b2_0, b2_1, b2_not, ite_self, Int.add_zero, jI_nat, jI_add, jI_sub, jI_mul, jI_neg, jI_lt, jI_le, jI_eq, jI_lt0, jI_0lt, jI_le0, jI_0le, jI_eq0, jI_in, jI_dv, i_mod, jI_cl, jm_n, jz_n, i_lit, i_c0, i_c1, Int.toNat_of_nonneg, Int.toNat_natCast, jrow_same, jrow_ne, jrow_jrow, sset_eq, sset_ne]
    rw [if_pos (by omega), ord]
  have goods : ∀ m : Nat, m ≤ (J 355 5).toNat → ∀ x2 : Value, wz W 320 2 [.ref 353, .int (jI ((J 355 5).toNat - m : Nat)), x2] [] (jm (cT 353 21 22 23 J (gds (J 355) ((J 355 5).toNat - m)))) Q = Q oV (jm (cT 353 21 22 23 J (gds (J 355) (J 355 5).toNat ++ pls (J 355) (J 355 8).toNat ++ ors (J 355) (J 355 7).toNat))) := by
    intro m
    induction m with
    | zero =>
      intro _ x2
      rw [sg_320_2]
      simp (disch := first | assumption | omega) only [t55, zk_l, zk_r, Option.toList_some, Option.toList_none, List.cons_append, List.nil_append, zrokB, zrokB0, zrokB1, zrokJ0, zrokJ1, and_true, true_and, and_self, if_true, if_false, b2_0, b2_1, b2_not, ite_self, Int.add_zero, jI_nat, jI_add, jI_sub, jI_mul, jI_neg, jI_lt, jI_le, jI_eq, jI_lt0, jI_0lt, jI_le0, jI_0le, jI_eq0, jI_in, jI_dv, i_mod, jI_cl, jm_n, jz_n, i_lit, i_c0, i_c1, Int.toNat_of_nonneg, Int.toNat_natCast, jrow_same, jrow_ne, jrow_jrow, sset_eq, sset_ne]
      rw [if_pos (by omega), Nat.sub_zero, pal]
    | succ m ih =>
      intro hm x2
      have ih := ih (by omega)
      have hl : (J 355 5).toNat - m = ((J 355 5).toNat - (m + 1)) + 1 := by omega
      rw [hl] at ih
      have hi1 : (((J 355 5).toNat - (m + 1) : Nat) : Int) < J 355 5 := by omega
      generalize gds (J 355) (J 355 5).toNat ++ pls (J 355) (J 355 8).toNat ++ ors (J 355) (J 355 7).toNat = fin at *
      generalize (J 355 5).toNat - (m + 1) = i at *
      obtain ⟨d1, d2, d3, d4, d5, d6, d7, d8, d9, d10, d11⟩ := hK.2.2.1 i (by omega) (by omega)
      rw [show gds (J 355) (i + 1) = gds (J 355) i ++ [gdT (J 355) i] from rfl, cT_1] at ih
      have one : ∀ (j : Nat) (l : List Int32), 1 ≤ j → j ≤ 5 → -999 ≤ J 355 (36 + 6 * (i : Int) + j) → J 355 (36 + 6 * (i : Int) + j) ≤ 999 → wz W 320 30 [.ref 353, .int (jI i), .int (jI j)] [] (jm (cS 353 21 22 23 (cT 353 21 22 23 J (gds (J 355) i)) l)) Q = wz W 320 30 [.ref 353, .int (jI i), .int (jI (j + 1 : Nat))] [] (jm (cS 353 21 22 23 (cT 353 21 22 23 J (gds (J 355) i)) (l ++ nuL (J 355 (36 + 6 * (i : Int) + j))))) Q := by
        intro j l j1 j5 v0 v1
        rw [sg_320_30, if_neg (by rw [jI_lt (by omega) (by omega) (by omega) (by omega)]; omega), sp_220 (c := (i : Int)) (k := (j : Int)) (by omega) (by omega) (by omega), s55]
        simp only [zk_l, zk_r, Option.toList_some, Option.toList_none, List.cons_append, List.nil_append, zrokB, zrokB0, zrokB1, zrokJ0, zrokJ1, and_true, true_and, and_self, if_true, if_false, b2_0, b2_1, b2_not, ite_self]
        rw [sg_320_42, sp_316 v0 v1]
        simp only [zk_l, zk_r, Option.toList_some, Option.toList_none, List.cons_append, List.nil_append, zrokB, zrokB0, zrokB1, zrokJ0, zrokJ1, and_true, true_and, and_self, if_true, if_false, b2_0, b2_1, b2_not, ite_self]
        rw [cS_cw, sg_320_45, jI_add]
        rfl
      rw [sg_320_2]
      simp (disch := first | assumption | omega) only [t55, zk_l, zk_r, Option.toList_some, Option.toList_none, List.cons_append, List.nil_append, zrokB, zrokB0, zrokB1, zrokJ0, zrokJ1, and_true, true_and, and_self, if_true, if_false, b2_0, b2_1, b2_not, ite_self, Int.add_zero, jI_nat, jI_add, jI_sub, jI_mul, jI_neg, jI_lt, jI_le, jI_eq, jI_lt0, jI_0lt, jI_le0, jI_0le, jI_eq0, jI_in, jI_dv, i_mod, jI_cl, jm_n, jz_n, i_lit, i_c0, i_c1, Int.toNat_of_nonneg, Int.toNat_natCast, jrow_same, jrow_ne, jrow_jrow, sset_eq, sset_ne]
      rw [if_neg (by omega), sp_317 (i := 2) (by decide)]
      simp only [zk_l, zk_r, Option.toList_some, Option.toList_none, List.cons_append, List.nil_append, zrokB, zrokB0, zrokB1, zrokJ0, zrokJ1, and_true, true_and, and_self, if_true, if_false, b2_0, b2_1, b2_not, ite_self]
      rw [sg_320_18, sp_220 (c := (i : Int)) (k := 0) (by omega) (by omega) (by omega), s55, Int.add_zero]
      simp only [zk_l, zk_r, Option.toList_some, Option.toList_none, List.cons_append, List.nil_append, zrokB, zrokB0, zrokB1, zrokJ0, zrokJ1, and_true, true_and, and_self, if_true, if_false, b2_0, b2_1, b2_not, ite_self]
      rw [sg_320_25, sp_318]
      simp only [zk_l, zk_r, Option.toList_some, Option.toList_none, List.cons_append, List.nil_append, zrokB, zrokB0, zrokB1, zrokJ0, zrokJ1, and_true, true_and, and_self, if_true, if_false, b2_0, b2_1, b2_not, ite_self]
      rw [cS_cw, sg_320_28]
      refine (one 1 _ (by decide) (by decide) (show -999 ≤ J 355 (36 + 6 * (i : Int) + 1) by omega) (show J 355 (36 + 6 * (i : Int) + 1) ≤ 999 by omega)).trans ?_
      refine (one 2 _ (by decide) (by decide) (show -999 ≤ J 355 (36 + 6 * (i : Int) + 2) by omega) (show J 355 (36 + 6 * (i : Int) + 2) ≤ 999 by omega)).trans ?_
      refine (one 3 _ (by decide) (by decide) (show -999 ≤ J 355 (36 + 6 * (i : Int) + 3) by omega) (show J 355 (36 + 6 * (i : Int) + 3) ≤ 999 by omega)).trans ?_
      refine (one 4 _ (by decide) (by decide) (show -999 ≤ J 355 (36 + 6 * (i : Int) + 4) by omega) (show J 355 (36 + 6 * (i : Int) + 4) ≤ 999 by omega)).trans ?_
      refine (one 5 _ (by decide) (by decide) (show -999 ≤ J 355 (36 + 6 * (i : Int) + 5) by omega) (show J 355 (36 + 6 * (i : Int) + 5) ≤ 999 by omega)).trans ?_
      rw [sg_320_30, if_pos (by decide), jI_add]
      exact ih _
  rw [sg_320_0]
  have h0 := goods (J 355 5).toNat (Nat.le_refl _) (.float 0)
  rw [Nat.sub_self] at h0
  exact h0
/-- the reference's writer, started -/
def w0R (J : zJ) (n : Int) : zJ := jrow J 353 (sset (sset (sset (J 353) 21 0) 22 n) 23 (-1))
theorem sp_321 (hK : okK (J 355)) (hD : okD D k (J 355)) {n : Int} (n0 : -2147483648 ≤ n) (n1 : n < 2147483648) : wz W 321 0 [.ref 353, .int (jI n)] [] (jm J) Q = Q oV (jm (cT 353 21 22 23 (w0R J n) (txT (J 355)))) := by
  obtain ⟨b1, b2x, b3, b4, b5, b6, b7, b8, b9, b10, b11, b12⟩ := hK.1
  have e5 : w0R J n 355 = J 355 := jrow_ne (by decide)
  have j5 : jm (w0R J n) 355 = jm J 355 := by funext x; show jI _ = jI _; rw [e5]
  rw [sg_321_0]
  have e0 : zset (zset (zset (jm J) 353 21 (jI 0)) 353 22 (jI n)) 353 23 (jI (-1)) = jm (w0R J n) := by
    simp (disch := first | assumption | omega) only [jI_cl, jm_n, jz_n, i_lit, i_c0, i_c1, Int.toNat_of_nonneg, Int.toNat_natCast, jrow_same, jrow_ne, jrow_jrow, sset_eq, sset_ne]
    rfl
  have h19 := fun Q => sp_319 (W := W) (J := w0R J n) (Q := Q) (k := k) (by rw [e5]; exact hK) (by rw [e5]; exact hD.2.1)
  rw [e5] at h19
  rw [e0, h19]
  simp only [zk_l, zk_r, Option.toList_some, Option.toList_none, List.cons_append, List.nil_append, zrokB, zrokB0, zrokB1, zrokJ0, zrokJ1, and_true, true_and, and_self, if_true, if_false, b2_0, b2_1, b2_not, ite_self]
  generalize hl0 : chs (J 355) (J 355 4).toNat ++ dors (J 355) (J 355 4).toNat = l0
  have e6 : cT 353 21 22 23 (w0R J n) l0 355 = J 355 := t55.trans e5
  have h20 := fun Q => sp_320 (W := W) (J := cT 353 21 22 23 (w0R J n) l0) (Q := Q) (k := k) (D := D) (by rw [e6]; exact hK) (by rw [e6]; exact hD)
  rw [e6] at h20
  rw [sg_321_19, h20, ← cT_app]
  simp only [zk_l, zk_r, Option.toList_some, Option.toList_none, List.cons_append, List.nil_append, zrokB, zrokB0, zrokB1, zrokJ0, zrokJ1, and_true, true_and, and_self, if_true, if_false, b2_0, b2_1, b2_not, ite_self]
  have htx : txT (J 355) = l0 ++ (gds (J 355) (J 355 5).toNat ++ pls (J 355) (J 355 8).toNat ++ ors (J 355) (J 355 7).toNat) ++ lmT (J 355) ++ qyT (J 355) := by
    rw [← hl0]
    unfold txT
    simp only [List.append_assoc]
  rw [htx]
  generalize l0 ++ (gds (J 355) (J 355 5).toNat ++ pls (J 355) (J 355 8).toNat ++ ors (J 355) (J 355 7).toNat) = l1
  have quay : ∀ l : List (List Int32), wz W 321 71 [.ref 353, .int (jI n)] [] (jm (cT 353 21 22 23 (w0R J n) l)) Q = Q oV (jm (cT 353 21 22 23 (w0R J n) (l ++ qyT (J 355)))) := by
    intro l
    rw [sg_321_71]
    simp (disch := first | assumption | omega) only [t55, e5, zk_l, zk_r, Option.toList_some, Option.toList_none, List.cons_append, List.nil_append, zrokB, zrokB0, zrokB1, zrokJ0, zrokJ1, and_true, true_and, and_self, if_true, if_false, b2_0, b2_1, b2_not, ite_self, Int.add_zero, jI_nat, jI_add, jI_sub, jI_mul, jI_neg, jI_lt, jI_le, jI_eq, jI_lt0, jI_0lt, jI_le0, jI_0le, jI_eq0, jI_in, jI_dv, i_mod, jI_cl, jm_n, jz_n, i_lit, i_c0, i_c1, Int.toNat_of_nonneg, Int.toNat_natCast, jrow_same, jrow_ne, jrow_jrow, sset_eq, sset_ne]
    unfold qyT
    by_cases q : J 355 3 = 12
    · rw [if_pos q, if_pos q, sg_321_98, List.append_nil]
    · rw [if_neg q, if_neg q, sp_317 (i := 6) (by decide)]
      simp only [zk_l, zk_r, Option.toList_some, Option.toList_none, List.cons_append, List.nil_append, zrokB, zrokB0, zrokB1, zrokJ0, zrokJ1, and_true, true_and, and_self, if_true, if_false, b2_0, b2_1, b2_not, ite_self]
      rw [sg_321_88]
      simp (disch := first | assumption | omega) only [s55, e5, zk_l, zk_r, Option.toList_some, Option.toList_none, List.cons_append, List.nil_append, zrokB, zrokB0, zrokB1, zrokJ0, zrokJ1, and_true, true_and, and_self, if_true, if_false, b2_0, b2_1, b2_not, ite_self, Int.add_zero, jI_nat, jI_add, jI_sub, jI_mul, jI_neg, jI_lt, jI_le, jI_eq, jI_lt0, jI_0lt, jI_le0, jI_0le, jI_eq0, jI_in, jI_dv, i_mod, jI_cl, jm_n, jz_n, i_lit, i_c0, i_c1, Int.toNat_of_nonneg, Int.toNat_natCast, jrow_same, jrow_ne, jrow_jrow, sset_eq, sset_ne]
      rw [sp_316 (by omega) (by omega)]
      simp only [zk_l, zk_r, Option.toList_some, Option.toList_none, List.cons_append, List.nil_append, zrokB, zrokB0, zrokB1, zrokJ0, zrokJ1, and_true, true_and, and_self, if_true, if_false, b2_0, b2_1, b2_not, ite_self]
      rw [cS_cw, sg_321_98, cT_1]
  have lim : wz W 321 45 [.ref 353, .int (jI n)] [] (jm (cT 353 21 22 23 (w0R J n) l1)) Q = Q oV (jm (cT 353 21 22 23 (w0R J n) (l1 ++ [wdL 5 ++ nuL (J 355 1) ++ nuL (J 355 2)] ++ qyT (J 355)))) := by
    rw [sg_321_45, sp_317 (i := 5) (by decide)]
    simp only [zk_l, zk_r, Option.toList_some, Option.toList_none, List.cons_append, List.nil_append, zrokB, zrokB0, zrokB1, zrokJ0, zrokJ1, and_true, true_and, and_self, if_true, if_false, b2_0, b2_1, b2_not, ite_self]
    rw [sg_321_51]
    simp (disch := first | assumption | omega) only [s55, e5, zk_l, zk_r, Option.toList_some, Option.toList_none, List.cons_append, List.nil_append, zrokB, zrokB0, zrokB1, zrokJ0, zrokJ1, and_true, true_and, and_self, if_true, if_false, b2_0, b2_1, b2_not, ite_self, Int.add_zero, jI_nat, jI_add, jI_sub, jI_mul, jI_neg, jI_lt, jI_le, jI_eq, jI_lt0, jI_0lt, jI_le0, jI_0le, jI_eq0, jI_in, jI_dv, i_mod, jI_cl, jm_n, jz_n, i_lit, i_c0, i_c1, Int.toNat_of_nonneg, Int.toNat_natCast, jrow_same, jrow_ne, jrow_jrow, sset_eq, sset_ne]
    rw [sp_316 (by omega) (by omega)]
    simp only [zk_l, zk_r, Option.toList_some, Option.toList_none, List.cons_append, List.nil_append, zrokB, zrokB0, zrokB1, zrokJ0, zrokJ1, and_true, true_and, and_self, if_true, if_false, b2_0, b2_1, b2_not, ite_self]
    rw [cS_cw, sg_321_61]
    simp (disch := first | assumption | omega) only [s55, e5, zk_l, zk_r, Option.toList_some, Option.toList_none, List.cons_append, List.nil_append, zrokB, zrokB0, zrokB1, zrokJ0, zrokJ1, and_true, true_and, and_self, if_true, if_false, b2_0, b2_1, b2_not, ite_self, Int.add_zero, jI_nat, jI_add, jI_sub, jI_mul, jI_neg, jI_lt, jI_le, jI_eq, jI_lt0, jI_0lt, jI_le0, jI_0le, jI_eq0, jI_in, jI_dv, i_mod, jI_cl, jm_n, jz_n, i_lit, i_c0, i_c1, Int.toNat_of_nonneg, Int.toNat_natCast, jrow_same, jrow_ne, jrow_jrow, sset_eq, sset_ne]
    rw [sp_316 (by omega) (by omega)]
    simp only [zk_l, zk_r, Option.toList_some, Option.toList_none, List.cons_append, List.nil_append, zrokB, zrokB0, zrokB1, zrokJ0, zrokJ1, and_true, true_and, and_self, if_true, if_false, b2_0, b2_1, b2_not, ite_self]
    rw [cS_cw, ← cT_1, quay]
  rw [sg_321_23]
  simp (disch := first | assumption | omega) only [t55, e5, zk_l, zk_r, Option.toList_some, Option.toList_none, List.cons_append, List.nil_append, zrokB, zrokB0, zrokB1, zrokJ0, zrokJ1, and_true, true_and, and_self, if_true, if_false, b2_0, b2_1, b2_not, ite_self, Int.add_zero, jI_nat, jI_add, jI_sub, jI_mul, jI_neg, jI_lt, jI_le, jI_eq, jI_lt0, jI_0lt, jI_le0, jI_0le, jI_eq0, jI_in, jI_dv, i_mod, jI_cl, jm_n, jz_n, i_lit, i_c0, i_c1, Int.toNat_of_nonneg, Int.toNat_natCast, jrow_same, jrow_ne, jrow_jrow, sset_eq, sset_ne]
  unfold lmT
  by_cases q1 : J 355 1 = 100
  · rw [if_pos q1]
    by_cases q2 : J 355 2 = 10
    · rw [if_pos q2, if_pos ⟨q1, q2⟩, List.append_nil, quay]
    · rw [if_neg q2, if_neg (fun h => q2 h.2), lim]
  · rw [if_neg q1, if_neg (fun h => q1 h.1), lim]
end

/-! the text is short, and of small bytes -/
def sml (n : Nat) (l : List (List Int32)) : Prop := l.length ≤ n ∧ ∀ x, x ∈ l → gdS x
theorem sml_app {n m : Nat} {l l' : List (List Int32)} (h : sml n l) (h' : sml m l') : sml (n + m) (l ++ l') := by
  refine ⟨by rw [List.length_append]; exact Nat.add_le_add h.1 h'.1, fun x hx => ?_⟩
  rcases List.mem_append.mp hx with h9 | h9
  · exact h.2 x h9
  · exact h'.2 x h9
theorem sml_0 : sml 0 [] := ⟨Nat.le_refl 0, fun x hx => by cases hx⟩
theorem sml_up {n m : Nat} {l : List (List Int32)} (h : sml n l) (hm : n ≤ m) : sml m l := ⟨Nat.le_trans h.1 hm, h.2⟩
theorem sml_1 {x : List Int32} (h : gdS x) : sml 1 [x] := ⟨Nat.le_refl 1, fun y hy => by rw [List.mem_singleton.mp hy]; exact h⟩
/-- a word, and what follows -/
def gdN (n : Nat) (l : List Int32) : Prop := l.length ≤ n ∧ ∀ x, x ∈ l → gdB x
theorem gdN_app {n m : Nat} {l l' : List Int32} (h : gdN n l) (h' : gdN m l') : gdN (n + m) (l ++ l') := ⟨by rw [List.length_append]; exact Nat.add_le_add h.1 h'.1, gdS_app h.2 h'.2⟩
theorem gdN_S {n : Nat} {l : List Int32} (h : gdN n l) (hn : n ≤ 100) : gdS l := ⟨Nat.le_trans h.1 hn, h.2⟩
theorem chs_sm (s : Int → Int) : ∀ n : Nat, sml n (chs s n) := by
  intro n
  induction n with
  | zero => exact sml_0
  | succ n ih => exact sml_app ih (sml_1 (gdN_S (gdN_app (gdN_app (gdN_app (gdN_app (gd_wd 0 (by decide)) (gd_nm _)) (gd_nu _)) (gd_nu _)) (gd_nu _)) (by decide)))
theorem dor_sm (s : Int → Int) (c : Int) : ∀ n : Nat, sml n (dor s c n) := by
  intro n
  induction n with
  | zero => exact sml_0
  | succ n ih =>
    refine sml_app ih ?_
    split
    · exact sml_1 (gdN_S (gdN_app (gdN_app (gdN_app (gd_wd 1 (by decide)) (gd_nm _)) (gd_nu _)) (gd_nu _)) (by decide))
    · exact sml_up sml_0 (by decide)
theorem dors_sm {s : Int → Int} (hK : okK s) : ∀ n : Nat, (n : Int) ≤ s 4 → sml (24 * n) (dors s n) := by
  intro n
  induction n with
  | zero => intro _; exact sml_0
  | succ n ih =>
    intro hn
    obtain ⟨-, -, n2, -⟩ := nC_eq hK (c := n) (by omega) (by omega)
    exact sml_app (ih (by omega)) (sml_up (dor_sm s n _) n2)
theorem gds_sm (s : Int → Int) : ∀ n : Nat, sml n (gds s n) := by
  intro n
  induction n with
  | zero => exact sml_0
  | succ n ih => exact sml_app ih (sml_1 (gdN_S (gdN_app (gdN_app (gdN_app (gdN_app (gdN_app (gdN_app (gd_wd 2 (by decide)) (gd_nm _)) (gd_nu _)) (gd_nu _)) (gd_nu _)) (gd_nu _)) (gd_nu _)) (by decide)))
theorem pls_sm (s : Int → Int) : ∀ n : Nat, sml n (pls s n) := by
  intro n
  induction n with
  | zero => exact sml_0
  | succ n ih => exact sml_app ih (sml_1 (gdN_S (gdN_app (gd_wd 3 (by decide)) (gd_nm _)) (by decide)))
theorem ors_sm (s : Int → Int) : ∀ n : Nat, sml n (ors s n) := by
  intro n
  induction n with
  | zero => exact sml_0
  | succ n ih =>
    refine sml_app ih ?_
    split
    · exact sml_1 (gdN_S (gdN_app (gdN_app (gdN_app (gd_wd 4 (by decide)) (gd_nm _)) (gd_nu _)) (gd_nu _)) (by decide))
    · exact sml_up sml_0 (by decide)
theorem txT_sm {s : Int → Int} (hK : okK s) (h8 : s 8 ≤ 8) : sml 200 (txT s) := by
  obtain ⟨b1, b2x, b3, b4, b5, b6, b7, b8, b9, b10, b11, b12⟩ := hK.1
  have h1 : sml 1 (lmT s) := by
    unfold lmT
    split
    · exact sml_up sml_0 (by decide)
    · exact sml_1 (gdN_S (gdN_app (gdN_app (gd_wd 5 (by decide)) (gd_nu _)) (gd_nu _)) (by decide))
  have h2 : sml 1 (qyT s) := by
    unfold qyT
    split
    · exact sml_up sml_0 (by decide)
    · exact sml_1 (gdN_S (gdN_app (gd_wd 6 (by decide)) (gd_nu _)) (by decide))
  exact sml_up (sml_app (sml_app (sml_app (sml_app (sml_app (sml_app (chs_sm s _) (dors_sm hK _ (by omega))) (gds_sm s _)) (pls_sm s _)) (ors_sm s _)) h1) h2) (by omega)
section
variable {W : zW} {k : Int}
/-- what both sides know when all is written -/
theorem txt_ok {J J' : zJ} {s : Int → Int} (hK : okK s) (h8 : s 8 ≤ 8) {n : Int} (n0 : -2147483648 ≤ n) (n1 : n < 2147483648) :
    wE (cT 4 0 1 2 (w0C J n) (txT s)) (cT 353 21 22 23 (w0R J' n) (txT s)) ∧ wP 21 22 23 (cT 353 21 22 23 (w0R J' n) (txT s) 353) 20200 ∧ cT 353 21 22 23 (w0R J' n) (txT s) 353 22 = n := by
  refine ⟨wE_T _ _ _ ?_, ?_, ?_⟩
  · unfold wE w0C w0R
    rw [jrow_same, jrow_same]
    refine ⟨?_, ?_, ?_⟩
    · rw [sset_ne (by decide), sset_ne (by decide), sset_eq rfl, sset_ne (by decide), sset_ne (by decide), sset_eq rfl]
    · rw [sset_ne (by decide), sset_eq rfl, sset_ne (by decide), sset_eq rfl]
    · rw [sset_eq rfl, sset_eq rfl]
  · obtain ⟨h1, h2⟩ := txT_sm hK h8
    have e21 : w0R J' n 353 21 = 0 := by unfold w0R; rw [jrow_same, sset_ne (by decide), sset_ne (by decide), sset_eq rfl]
    have e22 : w0R J' n 353 22 = n := by unfold w0R; rw [jrow_same, sset_ne (by decide), sset_eq rfl]
    have e23 : w0R J' n 353 23 = -1 := by unfold w0R; rw [jrow_same, sset_eq rfl]
    have h0 : wP 21 22 23 (w0R J' n 353) 0 := by
      unfold wP
      rw [e21, e22, e23]
      omega
    have := wP_T (p := 353) (by decide) (by decide) (by decide) (txT s) (w0R J' n) 0 h0 (by omega) (by rw [e22]; exact n0) (by rw [e22]; exact n1) h2
    exact wP_up this (by omega)
  · rw [cT_fr (by decide) (by decide)]
    unfold w0R
    rw [jrow_same, sset_ne (by decide), sset_eq rfl]
theorem kp_tx {J : zJ} {n : Int} {l : List (List Int32)} : kp J (cT 353 21 22 23 (w0R (jrow J 353 (sset (J 353) 0 0)) n) l) := by
  have h : ∀ i : Int, (i = 2 ∨ i = 15 ∨ i = 17) → cT 353 21 22 23 (w0R (jrow J 353 (sset (J 353) 0 0)) n) l 353 i = J 353 i := fun i hi => by
    rw [cT_fr (by omega) (by omega)]
    unfold w0R
    rw [jrow_same, jrow_same, sset_ne (by omega), sset_ne (by omega), sset_ne (by omega), sset_ne (by omega)]
  refine ⟨fun r hr => ?_, h 2 (by decide), h 15 (by decide), h 17 (by decide)⟩
  rw [cT_ne (by omega)]
  unfold w0R
  rw [jrow_ne (by omega), jrow_ne (by omega)]
theorem kp_tc {J : zJ} {n : Int} {l : List (List Int32)} : kp J (cT 4 0 1 2 (w0C J n) l) := by
  refine ⟨fun r hr => ?_, ?_, ?_, ?_⟩ <;> (rw [cT_ne (by omega), w0C_ne (by omega)])
theorem op_textLength (hk : k ≤ 30000) : Op W k [] 153 322 [.ref 0] [.ref 353] := by
  refine Op.q (fun J g t => ?_)
  obtain ⟨-, t2, t3, -⟩ := id t
  obtain ⟨a1', a2', a3', a4', a5', a6'⟩ := t3.1
  obtain ⟨b1, b2x, b3, b4, b5, b6, b7, b8, b9, b10, b11, b12⟩ := t2.1
  obtain ⟨-, hS, hU, -⟩ := id g
  obtain ⟨d1, d2, d3, hpl, hq, hc, ho⟩ := id hS
  have hcx := GC_cx g t hk
  have e355' : ∀ f, jrow (cT 4 0 1 2 (w0C J (-1)) (txT (J 355))) 353 f 355 = J 355 := fun f => by rw [jrow_ne (by decide), cT_ne (by decide), w0C_ne (by decide)]
  obtain ⟨x1, x2, x3⟩ := txt_ok (J := J) (J' := jrow (cT 4 0 1 2 (w0C J (-1)) (txT (J 355))) 353 (sset (cT 4 0 1 2 (w0C J (-1)) (txT (J 355)) 353) 0 0)) (n := -1) t2 a6' (by decide) (by decide)
  refine ⟨oI (cT 4 0 1 2 (w0C J (-1)) (txT (J 355)) 4 0), cT 4 0 1 2 (w0C J (-1)) (txT (J 355)), cT 4 0 1 2 (w0C J (-1)) (txT (J 355)) 4 0, cT 353 21 22 23 (w0R (jrow (cT 4 0 1 2 (w0C J (-1)) (txT (J 355))) 353 (sset (cT 4 0 1 2 (w0C J (-1)) (txT (J 355)) 353) 0 0)) (-1)) (txT (J 355)), fun Q => ?_, fun Q => ?_, kp_trans kp_tc kp_tx, Or.inl ⟨rfl, ?_⟩⟩
  · rw [sg_153_0, sp_88 hcx (by decide) (by decide)]
    simp only [zk_l, zk_r, Option.toList_some, Option.toList_none, List.cons_append, List.nil_append, zrokB, zrokB0, zrokB1, zrokJ0, zrokJ1, and_true, true_and, and_self, if_true, if_false, b2_0, b2_1, b2_not, ite_self]
    rw [sg_153_16]
  · rw [sg_322_0]
    generalize hJ1 : cT 4 0 1 2 (w0C J (-1)) (txT (J 355)) = J1 at *
    simp (disch := first | assumption | omega) only [jI_cl, jm_n, jz_n, i_lit, i_c0, i_c1, Int.toNat_of_nonneg, Int.toNat_natCast, jrow_same, jrow_ne, jrow_jrow, sset_eq, sset_ne]
    have h21 := fun Q => sp_321 (W := W) (J := jrow J1 353 (sset (J1 353) 0 0)) (Q := Q) (D := 365) (k := k) (n := -1) (by rw [e355']; exact t2) (by rw [e355']; exact t3) (by decide) (by decide)
    rw [e355'] at h21
    rw [h21]
    simp only [zk_l, zk_r, Option.toList_some, Option.toList_none, List.cons_append, List.nil_append, zrokB, zrokB0, zrokB1, zrokJ0, zrokJ1, and_true, true_and, and_self, if_true, if_false, b2_0, b2_1, b2_not, ite_self]
    rw [sg_322_10]
    have e : jm (cT 353 21 22 23 (w0R (jrow J1 353 (sset (J1 353) 0 0)) (-1)) (txT (J 355))) 353 21 = jI (J1 4 0) := by
      rw [x1.1]
      rfl
    rw [e]
  · rw [cT_fr (by decide) (by decide)]
    unfold w0R
    rw [jrow_same, jrow_same, sset_ne (by decide), sset_ne (by decide), sset_ne (by decide), sset_eq rfl]
theorem op_textByte (hk : k ≤ 30000) {n : Int} (p1 : -2147483648 ≤ n) (p2 : n < 2147483648) : Op W k [0] 154 323 [.ref 0, .int (jI n)] [.ref 353, .int (jI n)] := by
  refine Op.q (fun J g t => ?_)
  obtain ⟨-, t2, t3, -⟩ := id t
  obtain ⟨a1', a2', a3', a4', a5', a6'⟩ := t3.1
  obtain ⟨b1, b2x, b3, b4, b5, b6, b7, b8, b9, b10, b11, b12⟩ := t2.1
  obtain ⟨-, hS, hU, -⟩ := id g
  obtain ⟨d1, d2, d3, hpl, hq, hc, ho⟩ := id hS
  have hcx := GC_cx g t hk
  have hr0 : ∀ (J1 : zJ), J1 355 = J 355 → ∀ Q : zO → zI → Prop, wz W 323 0 [.ref 353, .int (jI n)] [] (jm J1) Q = wz W 323 10 [.ref 353, .int (jI n)] [] (jm (cT 353 21 22 23 (w0R (jrow J1 353 (sset (J1 353) 0 0)) n) (txT (J 355)))) Q := by
    intro J1 h1 Q
    rw [sg_323_0]
    simp (disch := first | assumption | omega) only [jI_cl, jm_n, jz_n, i_lit, i_c0, i_c1, Int.toNat_of_nonneg, Int.toNat_natCast, jrow_same, jrow_ne, jrow_jrow, sset_eq, sset_ne]
    have e9 : jrow J1 353 (sset (J1 353) 0 0) 355 = J 355 := by rw [jrow_ne (by decide)]; exact h1
    have h21 := fun Q => sp_321 (W := W) (J := jrow J1 353 (sset (J1 353) 0 0)) (Q := Q) (D := 365) (k := k) (n := n) (by rw [e9]; exact t2) (by rw [e9]; exact t3) p1 p2
    rw [e9] at h21
    rw [h21]
    simp only [zk_l, zk_r, Option.toList_some, Option.toList_none, List.cons_append, List.nil_append, zrokB, zrokB0, zrokB1, zrokJ0, zrokJ1, and_true, true_and, and_self, if_true, if_false, b2_0, b2_1, b2_not, ite_self]
  have fin : ∀ (J2 : zJ) (v : Bool), wP 21 22 23 (J2 353) 20200 → (v = true ↔ J2 353 23 ≠ -1) → ∀ Q : zO → zI → Prop, wz W 323 10 [.ref 353, .int (jI n)] [] (jm J2) Q = Q (oI (if v = true then J2 353 23 else 0)) (jm (if v = true then J2 else jrow J2 353 (sset (J2 353) 0 1))) := by
    intro J2 v h2 hv Q
    obtain ⟨q1, q2, q3, q4, -⟩ := h2
    have e : jm J2 353 23 = jI (J2 353 23) := rfl
    rw [sg_323_10, e]
    cases v with
    | true =>
      have h9 := hv.mp rfl
      rw [if_neg (by rw [jI_eq (by omega) (by omega) (by omega) (by omega)]; exact h9), sg_323_24]
      refine Eq.trans (sp_178t (W := W) 1) ?_
      simp only [zk_l, zk_r, Option.toList_some, Option.toList_none, List.cons_append, List.nil_append, zrokB, zrokB0, zrokB1, zrokJ0, zrokJ1, and_true, true_and, and_self, if_true, if_false, b2_0, b2_1, b2_not, ite_self]
      rw [sg_323_28, if_pos (by decide), e, sg_323_39]
    | false =>
      have h9 : J2 353 23 = -1 := by
        apply Classical.byContradiction
        intro h
        have := hv.mpr h
        cases this
      rw [if_pos (by rw [h9]), sg_323_24]
      refine Eq.trans (sp_178f (W := W) 1) ?_
      simp only [zk_l, zk_r, Option.toList_some, Option.toList_none, List.cons_append, List.nil_append, zrokB, zrokB0, zrokB1, zrokJ0, zrokJ1, and_true, true_and, and_self, if_true, if_false, b2_0, b2_1, b2_not, ite_self]
      rw [sg_323_28, if_neg (by decide), sg_323_39]
      rfl
  by_cases v : n < 0
  · obtain ⟨x1, x2, x3⟩ := txt_ok (J := J) (J' := jrow J 353 (sset (J 353) 0 0)) (n := n) t2 a6' p1 p2
    generalize hJ2 : cT 353 21 22 23 (w0R (jrow J 353 (sset (J 353) 0 0)) n) (txT (J 355)) = J2 at *
    refine ⟨oE 0, J, 0, jrow J2 353 (sset (J2 353) 0 1), fun Q => ?_, fun Q => ?_, ?_, mt_er 0 0 rfl rfl⟩
    · rw [sg_154_0, if_pos (by rw [jI_lt0 (by omega) (by omega)]; omega), sg_154_24]
    · rw [hr0 J rfl, hJ2, fin J2 false x2 (by
        have := x2.2.2.2.2
        rw [x3] at this
        constructor
        · intro h; cases h
        · intro h; have := this.mp h; omega)]
      rfl
    · have := kp_tx (J := J) (n := n) (l := txT (J 355))
      rw [hJ2] at this
      exact kp_trans this kp_thr
  · obtain ⟨x1, x2, x3⟩ := txt_ok (J := J) (J' := jrow (cT 4 0 1 2 (w0C J n) (txT (J 355))) 353 (sset (cT 4 0 1 2 (w0C J n) (txT (J 355)) 353) 0 0)) (n := n) t2 a6' p1 p2
    have hJ15 : cT 4 0 1 2 (w0C J n) (txT (J 355)) 355 = J 355 := by rw [cT_ne (by decide), w0C_ne (by decide)]
    have k1 : kp J (cT 4 0 1 2 (w0C J n) (txT (J 355))) := kp_tc
    have k2 := kp_tx (J := cT 4 0 1 2 (w0C J n) (txT (J 355))) (n := n) (l := txT (J 355))
    have hcl : ∀ Q : zO → zI → Prop, wz W 154 0 [.ref 0, .int (jI n)] [] (jm J) Q = wz W 154 21 [.ref 0, .int (jI n)] [.int (jI (cT 4 0 1 2 (w0C J n) (txT (J 355)) 4 0)), .int (jI n)] (jm (cT 4 0 1 2 (w0C J n) (txT (J 355)))) Q := by
      intro Q
      rw [sg_154_0, if_neg (by rw [jI_lt0 (by omega) (by omega)]; omega), sp_88 hcx p1 p2]
      simp only [zk_l, zk_r, Option.toList_some, Option.toList_none, List.cons_append, List.nil_append, zrokB, zrokB0, zrokB1, zrokJ0, zrokJ1, and_true, true_and, and_self, if_true, if_false, b2_0, b2_1, b2_not, ite_self]
    generalize hJ1 : cT 4 0 1 2 (w0C J n) (txT (J 355)) = J1 at *
    have h0 : cT 353 21 22 23 (w0R (jrow J1 353 (sset (J1 353) 0 0)) n) (txT (J 355)) 353 0 = 0 := by
      rw [cT_fr (by decide) (by decide)]
      unfold w0R
      rw [jrow_same, jrow_same, sset_ne (by decide), sset_ne (by decide), sset_ne (by decide), sset_eq rfl]
    have hr1 := hr0 J1 hJ15
    generalize hJ2 : cT 353 21 22 23 (w0R (jrow J1 353 (sset (J1 353) 0 0)) n) (txT (J 355)) = J2 at *
    obtain ⟨y1, y2, y3⟩ := x1
    obtain ⟨q1, q2, q3, q4, q5⟩ := id x2
    rw [x3] at q5
    by_cases w : n < J2 353 21
    · refine ⟨oI (J2 353 23), J1, J2 353 23, J2, fun Q => ?_, fun Q => ?_, kp_trans k1 k2, Or.inl ⟨rfl, h0⟩⟩
      · rw [hcl, y1, sg_154_21, if_pos (by rw [jI_lt (by omega) (by omega) (by omega) (by omega)]; exact w)]
        have e : jm J1 4 2 = jI (J2 353 23) := congrArg jI y3
        rw [e]
      · rw [hr1, fin J2 true x2 ⟨fun _ => q5.mpr ⟨by omega, w⟩, fun _ => rfl⟩]
        rfl
    · refine ⟨oE 0, J1, 0, jrow J2 353 (sset (J2 353) 0 1), fun Q => ?_, fun Q => ?_, kp_trans k1 (kp_trans k2 kp_thr), mt_er 0 0 rfl rfl⟩
      · rw [hcl, y1, sg_154_21, if_neg (by rw [jI_lt (by omega) (by omega) (by omega) (by omega)]; exact w), sg_154_24]
      · rw [hr1, fin J2 false x2 ⟨(fun h => by cases h), fun h => absurd (q5.mp h).2 w⟩]
        rfl
end
