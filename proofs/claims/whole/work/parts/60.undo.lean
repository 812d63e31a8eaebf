/-! ===== undo, save, restore ===== -/
section
variable {W : zW} {k : Int}
theorem sp_16 {Q : zO → zI → Prop} {J : zJ} (h0 : 0 ≤ J 130 1) (h1 : J 130 1 < 8) (h2 : 1 ≤ J 130 2) (h3 : J 130 2 ≤ 8) : wz W 16 0 [.ref 130, .ref 49, .float 0] [] (jm J) Q = Q oV (jm (jrow (cpyJ J 49 (hb (J 130 1) (J 130 2 - 1))) 130 (sset (J 130) 2 (J 130 2 - 1)))) := by
  have hst : zStk (hb (J 130 1) (J 130 2 - 1)) := hb_stk _ _
  have hlo : 132 ≤ hb (J 130 1) (J 130 2 - 1) := by unfold hb; omega
  rw [sg_16_0 (hp1 := zStk_49)]
  simp (disch := first | assumption | omega) only [jI_cl, jm_n, jz_n, i_lit, i_c0, i_c1, Int.toNat_of_nonneg, Int.toNat_natCast, jrow_same, jrow_ne, jrow_jrow, sset_eq, sset_ne]
  rw [jI_sub, sp_17 (by omega) (by omega)]
  simp only [zk_l, zk_r, Option.toList_some, Option.toList_none, List.cons_append, List.nil_append, zrokB, zrokB0, zrokB1, zrokJ0, zrokJ1, and_true, true_and, and_self, if_true, if_false, b2_0, b2_1, b2_not, ite_self]
  have eh : 132 + 27 * ((J 130 1 + (J 130 2 - 1)) % 8).toNat = hb (J 130 1) (J 130 2 - 1) := rfl
  rw [eh, sg_16_10 (hp1 := zStk_49) (hqt0 := hst), sp_62 zStk_49 hst (by omega)]
  simp only [zk_l, zk_r, Option.toList_some, Option.toList_none, List.cons_append, List.nil_append, zrokB, zrokB0, zrokB1, zrokJ0, zrokJ1, and_true, true_and, and_self, if_true, if_false, b2_0, b2_1, b2_not, ite_self]
  rw [sg_16_20 (hp1 := zStk_49) (hqx2 := hst)]
  have e3 : cpyJ J 49 (hb (J 130 1) (J 130 2 - 1)) 130 = J 130 := cpyJ_fr 130 (by omega)
  simp (disch := first | assumption | omega) only [e3, jI_cl, jm_n, jz_n, i_lit, i_c0, i_c1, Int.toNat_of_nonneg, Int.toNat_natCast, jrow_same, jrow_ne, jrow_jrow, sset_eq, sset_ne]
  rw [jI_sub, sg_16_30 (hp1 := zStk_49) (hqx2 := hst)]
  simp (disch := first | assumption | omega) only [e3, jI_cl, jm_n, jz_n, i_lit, i_c0, i_c1, Int.toNat_of_nonneg, Int.toNat_natCast, jrow_same, jrow_ne, jrow_jrow, sset_eq, sset_ne]
theorem op_undo (hk : k ≤ 30000) : Op W k [2] 155 324 [.ref 0] [.ref 353, .float 0] := by
  intro J g t
  obtain ⟨-, t2, t3, -⟩ := id t
  obtain ⟨a1', a2', a3', a4', a5', a6'⟩ := t3.1
  obtain ⟨b1, b2x, b3, b4, b5, b6, b7, b8, b9, b10, b11, b12⟩ := t2.1
  obtain ⟨-, hS, hU, -⟩ := id g
  obtain ⟨d1, d2, d3, hpl, hq, hc, ho⟩ := id hS
  have hcx := GC_cx g t hk
  obtain ⟨⟨g1, g2⟩, g3, g4, ⟨g5, g6, g7, g8⟩, g9, g10⟩ := id g
  obtain ⟨⟨h1, h2, h3⟩, h4, h5, ⟨h6, h7, h8⟩, h9, h10⟩ := id t
  by_cases v : J 353 15 = 0
  · refine opq g t ⟨oE 2, J, 0, jrow J 353 (sset (J 353) 0 1), fun Q => ?_, fun Q => ?_, kp_thr, mt_er 0 2 rfl rfl⟩
    · rw [sg_155_0]
      simp (disch := first | assumption | omega) only [g5, jI_cl, jm_n, jz_n, i_lit, i_c0, i_c1, Int.toNat_of_nonneg, Int.toNat_natCast, jrow_same, jrow_ne, jrow_jrow, sset_eq, sset_ne]
      rw [if_pos (by rw [v]; rfl)]
    · rw [sg_324_0]
      simp (disch := first | assumption | omega) only [jI_cl, jm_n, jz_n, i_lit, i_c0, i_c1, Int.toNat_of_nonneg, Int.toNat_natCast, jrow_same, jrow_ne, jrow_jrow, sset_eq, sset_ne]
      rw [if_pos (by rw [v]; exact Int32.le_refl _), sg_324_18]
      refine Eq.trans (sp_178f (W := W) 1) ?_
      simp only [sset_ss, zk_l, zk_r, Option.toList_some, Option.toList_none, List.cons_append, List.nil_append, zrokB, zrokB0, zrokB1, zrokJ0, zrokJ1, and_true, true_and, and_self, if_true, if_false, b2_0, b2_1, b2_not, ite_self, jI_cl, jm_n, jz_n, i_lit, i_c0, i_c1, Int.toNat_of_nonneg, Int.toNat_natCast, jrow_same, jrow_ne, jrow_jrow, sset_eq, sset_ne]
      rw [sg_324_22, if_neg (by decide)]
  · obtain ⟨x1, x2⟩ := h8 (J 353 15 - 1) (by omega) (by omega)
    have y1 := g8 (J 353 15 - 1) (by omega) (by omega)
    obtain ⟨z1, z2, z3, z4, z5, z6⟩ := x2.1
    let e : Int → Int := scpy (hs J (J 353 15 - 1)) (J 355) 472
    have he : eqS (hs J (J 353 15 - 1)) e := eqS_symm (scpy_eqS _ _)
    have hKh := okK_same t2 x1
    have hse : same (J 355) e := same_trans x1 (same_eqS hKh he)
    let J1 : zJ := jrow (cpyJ J 49 (hb (J 130 1) (J 353 15 - 1))) 130 (sset (J 130) 2 (J 353 15 - 1))
    have hlo : 132 ≤ hb (J 130 1) (J 353 15 - 1) := by unfold hb; omega
    have f1 : ∀ r, r ≠ 130 → (r < 49 ∨ 76 ≤ r) → J1 r = J r := fun r a b => by
      show jrow _ _ _ r = _
      rw [jrow_ne a, cpyJ_fr r (by omega)]
    have q355 := f1 355 (by decide) (by decide)
    have q353 := f1 353 (by decide) (by decide)
    have q359 := f1 359 (by decide) (by decide)
    have hrs : RS J1 49 e := by
      have h9 : RS (cpyJ J 49 (hb (J 130 1) (J 353 15 - 1))) 49 (hs J (J 353 15 - 1)) := by
        obtain ⟨bb1, bb2, bb3, bb4, bb5, bb6, bb7, bb8, bb9, bb10, bb11, bb12⟩ := hKh.1
        exact cpyJ_RS y1 z4 z6 bb8 bb12
      exact RS_eqS hKh z4 z6 (RS_fr h9 (fun r a b => jrow_ne (by omega))) he
    let J2 : zJ := jrow (jrow J1 353 (sset (sset (J 353) 0 0) 15 (J 353 15 - 1))) 355 e
    have f2 : ∀ r, r ≠ 353 → r ≠ 355 → J2 r = J1 r := fun r a b => by
      show jrow (jrow _ _ _) _ _ r = _
      rw [jrow_ne b, jrow_ne a]
    have k355 : J2 355 = e := jrow_same
    have k353 : J2 353 = sset (sset (J 353) 0 0) 15 (J 353 15 - 1) := by
      show jrow (jrow _ _ _) _ _ 353 = _
      rw [jrow_ne (by decide), jrow_same]
    have k130 : J2 130 = sset (J 130) 2 (J 353 15 - 1) := by
      rw [f2 130 (by decide) (by decide)]
      exact jrow_same
    have hh : ∀ i, hs J2 i = hs J i := fun i => by
      unfold hs
      rw [f2 359 (by decide) (by decide), q359]
    refine ⟨oI (J 353 15 - 1), J1, J 353 15 - 1, J2, fun Q => ?_, fun Q => ?_, ⟨⟨?_, fun i i0 i1 => ?_⟩, ?_, ?_, ⟨?_, ?_, ?_, fun i i0 i1 => ?_⟩, ?_, fun hq => ?_⟩, ⟨⟨?_, ?_, fun i i0 i1 => ?_⟩, ?_, ?_, ⟨?_, ?_, fun i i0 i1 => ?_⟩, ?_, fun hq => ?_⟩, Or.inl ⟨rfl, ?_⟩⟩
    · rw [sg_155_0]
      simp (disch := first | assumption | omega) only [g5, jI_cl, jm_n, jz_n, i_lit, i_c0, i_c1, Int.toNat_of_nonneg, Int.toNat_natCast, jrow_same, jrow_ne, jrow_jrow, sset_eq, sset_ne]
      rw [if_neg (by rw [jI_eq0 (by omega) (by omega)]; exact v), sp_16 g6 g7 (by omega) (by omega), g5]
      simp only [zk_l, zk_r, Option.toList_some, Option.toList_none, List.cons_append, List.nil_append, zrokB, zrokB0, zrokB1, zrokJ0, zrokJ1, and_true, true_and, and_self, if_true, if_false, b2_0, b2_1, b2_not, ite_self]
      rw [sg_155_32]
      simp (disch := first | assumption | omega) only [jI_cl, jm_n, jz_n, i_lit, i_c0, i_c1, Int.toNat_of_nonneg, Int.toNat_natCast, jrow_same, jrow_ne, jrow_jrow, sset_eq, sset_ne]
      rfl
    · rw [sg_324_0]
      simp (disch := first | assumption | omega) only [q353, jI_cl, jm_n, jz_n, i_lit, i_c0, i_c1, Int.toNat_of_nonneg, Int.toNat_natCast, jrow_same, jrow_ne, jrow_jrow, sset_eq, sset_ne]
      rw [if_neg (by rw [jI_le0 (by omega) (by omega)]; omega), sg_324_18]
      refine Eq.trans (sp_178t (W := W) 1) ?_
      simp only [zk_l, zk_r, Option.toList_some, Option.toList_none, List.cons_append, List.nil_append, zrokB, zrokB0, zrokB1, zrokJ0, zrokJ1, and_true, true_and, and_self, if_true, if_false, b2_0, b2_1, b2_not, ite_self]
      rw [sg_324_22, if_pos (by decide)]
      simp (disch := first | assumption | omega) only [jI_sub, jI_cl, jm_n, jz_n, i_lit, i_c0, i_c1, Int.toNat_of_nonneg, Int.toNat_natCast, jrow_same, jrow_ne, jrow_jrow, sset_eq, sset_ne]
      have key := zloop (f := fun i => wz W 324 39 [.ref 353, .int (jI i)] [] (jm (jrow (jrow J1 353 (sset (sset (J 353) 0 0) 15 (J 353 15 - 1))) 355 (scpy (hs J (J 353 15 - 1)) (J 355) i))) Q) 472 (fun i hi => by
        try simp only
        rw [sg_324_39]
        simp (disch := first | assumption | omega) only [q359, zk_l, zk_r, Option.toList_some, Option.toList_none, List.cons_append, List.nil_append, zrokB, zrokB0, zrokB1, zrokJ0, zrokJ1, and_true, true_and, and_self, if_true, if_false, b2_0, b2_1, b2_not, ite_self, Int.add_zero, jI_nat, jI_add, jI_sub, jI_mul, jI_neg, jI_lt, jI_le, jI_eq, jI_lt0, jI_0lt, jI_le0, jI_0le, jI_eq0, jI_in, jI_dv, i_mod, jI_cl, jm_n, jz_n, i_lit, i_c0, i_c1, Int.toNat_of_nonneg, Int.toNat_natCast, jrow_same, jrow_ne, jrow_jrow, sset_eq, sset_ne]
        rw [if_neg (by omega)]
        have e1 : sset (scpy (hs J (J 353 15 - 1)) (J 355) i) i (J 359 (472 * (J 353 15 - 1) + i)) = scpy (hs J (J 353 15 - 1)) (J 355) (i + 1 : Nat) := by
          funext j
          unfold sset scpy
          by_cases c : j = i
          · rw [if_pos c, if_pos (by omega), c]; rfl
          · rw [if_neg c]
            by_cases c2 : 0 ≤ j ∧ j < i
            · rw [if_pos c2, if_pos (by omega)]
            · rw [if_neg c2, if_neg (by omega)]
        rw [e1]
        rfl)
      have e0 : scpy (hs J (J 353 15 - 1)) (J 355) (0 : Nat) = J 355 := by
        funext j
        exact if_neg (by omega)
      have e00 : jrow (jrow J1 353 (sset (sset (J 353) 0 0) 15 (J 353 15 - 1))) 355 (J 355) = jrow J1 353 (sset (sset (J 353) 0 0) 15 (J 353 15 - 1)) := by
        rw [← q355]
        have : J1 355 = jrow J1 353 (sset (sset (J 353) 0 0) 15 (J 353 15 - 1)) 355 := by rw [jrow_ne (by decide)]
        rw [this, jrow_id]
      rw [e0, e00] at key
      refine Eq.trans key ?_
      rw [sg_324_39, if_pos (by decide)]
      have e9 : jm (jrow (jrow J1 353 (sset (sset (J 353) 0 0) 15 (J 353 15 - 1))) 355 (scpy (hs J (J 353 15 - 1)) (J 355) (472 : Nat))) 353 15 = jI (J 353 15 - 1) := by
        show jI (jrow (jrow J1 353 _) 355 _ 353 15) = _
        rw [jrow_ne (by decide), jrow_same, sset_eq rfl]
      rw [e9]
      rfl
    · rw [f2 0 (by decide) (by decide), f1 0 (by decide) (by decide), k353, sset_ne (by decide), sset_ne (by decide)]; exact g1
    · rw [k353, sset_ne (by decide), sset_ne (by decide)] at i1
      rw [f2 2 (by decide) (by decide), f1 2 (by decide) (by decide), f2 354 (by decide) (by decide), f1 354 (by decide) (by decide)]; exact g2 i i0 i1
    · rw [k355]; exact RS_fr hrs (fun r a b => f2 r (by omega) (by omega))
    · rw [k355]; exact RU_same (RU_fr g4 t2 (fun r a b => by rw [f2 r (by omega) (by omega), f1 r (by omega) (by omega)])) t2 hse
    · rw [k130, k353, sset_eq rfl, sset_eq rfl]
    · rw [k130, sset_ne (by decide)]; exact g6
    · rw [k130, sset_ne (by decide)]; exact g7
    · rw [k353, sset_eq rfl] at i1
      rw [k130, sset_ne (by decide), hh]
      exact RS_fr (g8 i i0 (by omega)) (fun r a b => by rw [f2 r (by unfold hb at b; omega) (by unfold hb at b; omega), f1 r (by unfold hb at a; omega) (by unfold hb at a; omega)])
    · rw [f2 0 (by decide) (by decide), f1 0 (by decide) (by decide), k353, sset_ne (by decide), sset_ne (by decide)]; exact g9
    · rw [k353, sset_ne (by decide), sset_ne (by decide)] at hq
      rw [f2 360 (by decide) (by decide), f1 360 (by decide) (by decide)]
      exact RS_fr (g10 hq) (fun r a b => by rw [f2 r (by omega) (by omega), f1 r (by omega) (by omega)])
    · rw [k353, sset_ne (by decide), sset_ne (by decide)]; exact h1
    · rw [k353, sset_ne (by decide), sset_ne (by decide)]; exact h2
    · rw [k353, sset_ne (by decide), sset_ne (by decide)] at i1
      rw [f2 354 (by decide) (by decide), f1 354 (by decide) (by decide)]; exact h3 i i0 i1
    · rw [k355]; exact okK_same t2 hse
    · rw [k355]; exact okD_mono (okD_eqS hKh x2 he) (Int.le_refl _) (by omega)
    · rw [k353, sset_eq rfl]; omega
    · rw [k353, sset_eq rfl]; omega
    · rw [k353, sset_eq rfl] at i1
      rw [k355, hh]
      obtain ⟨w1, w2⟩ := h8 i i0 (by omega)
      exact ⟨same_trans (same_symm hse) w1, okD_mono w2 (Int.le_refl _) (by omega)⟩
    · rw [k353, sset_ne (by decide), sset_ne (by decide)]; exact h9
    · rw [k353, sset_ne (by decide), sset_ne (by decide)] at hq
      rw [k355, f2 360 (by decide) (by decide), f1 360 (by decide) (by decide)]
      obtain ⟨w1, w2⟩ := h10 hq
      exact ⟨same_trans (same_symm hse) w1, okD_mono w2 (Int.le_refl _) (by omega)⟩
    · rw [k353, sset_ne (by decide), sset_eq rfl]
theorem op_save (hk : k ≤ 30000) : Op W k [] 157 326 [.ref 0] [.ref 353] := by
  intro J g t
  obtain ⟨-, t2, t3, -⟩ := id t
  obtain ⟨a1', a2', a3', a4', a5', a6'⟩ := t3.1
  obtain ⟨b1, b2x, b3, b4, b5, b6, b7, b8, b9, b10, b11, b12⟩ := t2.1
  obtain ⟨-, hS, hU, -⟩ := id g
  obtain ⟨d1, d2, d3, hpl, hq, hc, ho⟩ := id hS
  have hcx := GC_cx g t hk
  obtain ⟨⟨g1, g2⟩, g3, g4, ⟨g5, g6, g7, g8⟩, g9, g10⟩ := id g
  obtain ⟨⟨h1, h2, h3⟩, h4, h5, ⟨h6, h7, h8⟩, h9, h10⟩ := id t
  let e : Int → Int := scpy (J 355) (J 360) 472
  have he : eqS (J 355) e := eqS_symm (scpy_eqS _ _)
  have hse := same_eqS t2 he
  let J1 : zJ := jrow (cpyJ J 103 49) 0 (sset (J 0) 9 1)
  have f1 : ∀ r, r ≠ 0 → (r < 103 ∨ 130 ≤ r) → J1 r = J r := fun r a b => by
    show jrow _ _ _ r = _
    rw [jrow_ne a, cpyJ_fr r (by omega)]
  have q355 := f1 355 (by decide) (by decide)
  have q353 := f1 353 (by decide) (by decide)
  have q360 := f1 360 (by decide) (by decide)
  have hrs : RS J1 103 e := by
    have h9 : RS (cpyJ J 103 49) 103 (J 355) := cpyJ_RS g3 a4' a6' b8 b12
    exact RS_eqS t2 a4' a6' (RS_fr h9 (fun r a b => jrow_ne (by omega))) he
  let J2 : zJ := jrow (jrow J1 360 e) 353 (sset (sset (J 353) 0 0) 17 1)
  have f2 : ∀ r, r ≠ 353 → r ≠ 360 → J2 r = J1 r := fun r a b => by
    show jrow (jrow _ _ _) _ _ r = _
    rw [jrow_ne a, jrow_ne b]
  have k360 : J2 360 = e := by
    show jrow (jrow _ _ _) _ _ 360 = _
    rw [jrow_ne (by decide), jrow_same]
  have k353 : J2 353 = sset (sset (J 353) 0 0) 17 1 := jrow_same
  have k0 : J2 0 = sset (J 0) 9 1 := by
    rw [f2 0 (by decide) (by decide)]
    exact jrow_same
  have k355 : J2 355 = J 355 := by rw [f2 355 (by decide) (by decide), q355]
  have hh : ∀ i, hs J2 i = hs J i := fun i => by
    unfold hs
    rw [f2 359 (by decide) (by decide), f1 359 (by decide) (by decide)]
  refine ⟨oI (J 355 0), J1, J 355 0, J2, fun Q => ?_, fun Q => ?_, ⟨⟨?_, fun i i0 i1 => ?_⟩, ?_, ?_, ⟨?_, ?_, ?_, fun i i0 i1 => ?_⟩, ?_, fun hq => ?_⟩, ⟨⟨?_, ?_, fun i i0 i1 => ?_⟩, ?_, ?_, ⟨?_, ?_, fun i i0 i1 => ?_⟩, ?_, fun hq => ?_⟩, Or.inl ⟨rfl, ?_⟩⟩
  · rw [sg_157_0, sp_62 (by unfold zStk; decide) zStk_49 (by decide)]
    simp only [zk_l, zk_r, Option.toList_some, Option.toList_none, List.cons_append, List.nil_append, zrokB, zrokB0, zrokB1, zrokJ0, zrokJ1, and_true, true_and, and_self, if_true, if_false, b2_0, b2_1, b2_not, ite_self]
    rw [sg_157_11]
    have e1 : cpyJ J 103 49 0 = J 0 := cpyJ_fr 0 (by decide)
    have e2 : cpyJ J 103 49 49 = J 49 := cpyJ_fr 49 (by decide)
    simp (disch := first | assumption | omega) only [e1, e2, d1, jI_cl, jm_n, jz_n, i_lit, i_c0, i_c1, Int.toNat_of_nonneg, Int.toNat_natCast, jrow_same, jrow_ne, jrow_jrow, sset_eq, sset_ne]
    rfl
  · rw [sg_326_0]
    simp (disch := first | assumption | omega) only [q353, jI_cl, jm_n, jz_n, i_lit, i_c0, i_c1, Int.toNat_of_nonneg, Int.toNat_natCast, jrow_same, jrow_ne, jrow_jrow, sset_eq, sset_ne]
    rw [sp_196 za_355 za_360 (by decide) (by decide) (by decide) (by decide) (by decide), jrow_ne (show 355 ≠ 353 by decide), jrow_ne (show 360 ≠ 353 by decide), q355, q360]
    simp only [zk_l, zk_r, Option.toList_some, Option.toList_none, List.cons_append, List.nil_append, zrokB, zrokB0, zrokB1, zrokJ0, zrokJ1, and_true, true_and, and_self, if_true, if_false, b2_0, b2_1, b2_not, ite_self]
    rw [sg_326_16]
    have e3 : jrow (jrow J1 353 (sset (J 353) 0 0)) 360 e 353 = sset (J 353) 0 0 := by rw [jrow_ne (by decide), jrow_same]
    have e5 : jrow (jrow J1 353 (sset (J 353) 0 0)) 360 e 355 = J 355 := by rw [jrow_ne (by decide), jrow_ne (by decide), q355]
    have e6 : jrow (jrow (jrow J1 353 (sset (J 353) 0 0)) 360 e) 353 (sset (sset (J 353) 0 0) 17 1) = J2 := by
      funext r
      show _ = jrow (jrow J1 360 e) 353 (sset (sset (J 353) 0 0) 17 1) r
      by_cases c : r = 353
      · rw [c, jrow_same, jrow_same]
      · rw [jrow_ne c, jrow_ne c]
        by_cases c2 : r = 360
        · rw [c2, jrow_same, jrow_same]
        · rw [jrow_ne c2, jrow_ne c2, jrow_ne c]
    have e7 : zset (jm (jrow (jrow J1 353 (sset (J 353) 0 0)) 360 e)) 353 17 (jI 1) = jm J2 := by
      have := jz_n (J := jrow (jrow J1 353 (sset (J 353) 0 0)) 360 e) (a := 353) (n := 17) (v := 1)
      rw [e3] at this
      exact this.trans (congrArg jm e6)
    show (_ ∧ Q (.inl (some (.int ((zset (jm (jrow (jrow J1 353 (sset (J 353) 0 0)) 360 e)) 353 17 (jI 1)) 355 (jI 0).toNatClampNeg)))) (zset (jm (jrow (jrow J1 353 (sset (J 353) 0 0)) 360 e)) 353 17 (jI 1))) = _
    rw [e7]
    have e8 : jm J2 355 (jI 0).toNatClampNeg = jI (J 355 0) := by
      show jI (J2 355 0) = _
      rw [k355]
    rw [e8]
    exact and_iff_r (by decide)
  · rw [k0, k353, sset_ne (by decide), sset_ne (by decide), sset_ne (by decide)]; exact g1
  · rw [k353, sset_ne (by decide), sset_ne (by decide)] at i1
    rw [f2 2 (by decide) (by decide), f1 2 (by decide) (by decide), f2 354 (by decide) (by decide), f1 354 (by decide) (by decide)]; exact g2 i i0 i1
  · rw [k355]; exact RS_fr g3 (fun r a b => by rw [f2 r (by omega) (by omega), f1 r (by omega) (by omega)])
  · rw [k355]; exact RU_fr g4 t2 (fun r a b => by rw [f2 r (by omega) (by omega), f1 r (by omega) (by omega)])
  · rw [f2 130 (by decide) (by decide), f1 130 (by decide) (by decide), k353, sset_ne (by decide), sset_ne (by decide)]; exact g5
  · rw [f2 130 (by decide) (by decide), f1 130 (by decide) (by decide)]; exact g6
  · rw [f2 130 (by decide) (by decide), f1 130 (by decide) (by decide)]; exact g7
  · rw [k353, sset_ne (by decide), sset_ne (by decide)] at i1
    rw [f2 130 (by decide) (by decide), f1 130 (by decide) (by decide), hh]
    exact RS_fr (g8 i i0 i1) (fun r a b => by rw [f2 r (by unfold hb at b; omega) (by unfold hb at b; omega), f1 r (by unfold hb at a; omega) (by unfold hb at a; omega)])
  · rw [k0, k353, sset_eq rfl, sset_eq rfl]
  · rw [k360]; exact RS_fr hrs (fun r a b => f2 r (by omega) (by omega))
  · rw [k353, sset_ne (by decide), sset_ne (by decide)]; exact h1
  · rw [k353, sset_ne (by decide), sset_ne (by decide)]; exact h2
  · rw [k353, sset_ne (by decide), sset_ne (by decide)] at i1
    rw [f2 354 (by decide) (by decide), f1 354 (by decide) (by decide)]; exact h3 i i0 i1
  · rw [k355]; exact t2
  · rw [k355]; exact okD_mono t3 (Int.le_refl _) (by omega)
  · rw [k353, sset_ne (by decide), sset_ne (by decide)]; exact h6
  · rw [k353, sset_ne (by decide), sset_ne (by decide)]; exact h7
  · rw [k353, sset_ne (by decide), sset_ne (by decide)] at i1
    rw [k355, hh]
    obtain ⟨w1, w2⟩ := h8 i i0 i1
    exact ⟨w1, okD_mono w2 (Int.le_refl _) (by omega)⟩
  · rw [k353, sset_eq rfl]; exact Or.inr rfl
  · rw [k355, k360]
    exact ⟨hse, okD_mono (okD_eqS t2 t3 he) (Int.le_refl _) (by omega)⟩
  · rw [k353, sset_ne (by decide), sset_eq rfl]
theorem op_restore (hk : k ≤ 30000) : Op W k [2] 158 327 [.ref 0] [.ref 353] := by
  intro J g t
  obtain ⟨-, t2, t3, -⟩ := id t
  obtain ⟨a1', a2', a3', a4', a5', a6'⟩ := t3.1
  obtain ⟨b1, b2x, b3, b4, b5, b6, b7, b8, b9, b10, b11, b12⟩ := t2.1
  obtain ⟨-, hS, hU, -⟩ := id g
  obtain ⟨d1, d2, d3, hpl, hq, hc, ho⟩ := id hS
  have hcx := GC_cx g t hk
  obtain ⟨⟨g1, g2⟩, g3, g4, ⟨g5, g6, g7, g8⟩, g9, g10⟩ := id g
  obtain ⟨⟨h1, h2, h3⟩, h4, h5, ⟨h6, h7, h8⟩, h9, h10⟩ := id t
  by_cases v : J 353 17 = 1
  · obtain ⟨x1, x2⟩ := h10 v
    have y1 := g10 v
    obtain ⟨z1, z2, z3, z4, z5, z6⟩ := x2.1
    let e : Int → Int := scpy (J 360) (J 355) 472
    have he : eqS (J 360) e := eqS_symm (scpy_eqS _ _)
    have hKh := okK_same t2 x1
    have hse : same (J 355) e := same_trans x1 (same_eqS hKh he)
    let J1 : zJ := jrow (cpyJ J 49 103) 130 (sset (sset (J 130) 1 0) 2 0)
    have f1 : ∀ r, r ≠ 130 → (r < 49 ∨ 76 ≤ r) → J1 r = J r := fun r a b => by
      show jrow _ _ _ r = _
      rw [jrow_ne a, cpyJ_fr r (by omega)]
    have q355 := f1 355 (by decide) (by decide)
    have q353 := f1 353 (by decide) (by decide)
    have q360 := f1 360 (by decide) (by decide)
    have hrs : RS J1 49 e := by
      have h9 : RS (cpyJ J 49 103) 49 (J 360) := by
        obtain ⟨bb1, bb2, bb3, bb4, bb5, bb6, bb7, bb8, bb9, bb10, bb11, bb12⟩ := hKh.1
        exact cpyJ_RS y1 z4 z6 bb8 bb12
      exact RS_eqS hKh z4 z6 (RS_fr h9 (fun r a b => jrow_ne (by omega))) he
    let J2 : zJ := jrow (jrow J1 355 e) 353 (sset (sset (J 353) 0 0) 15 0)
    have f2 : ∀ r, r ≠ 353 → r ≠ 355 → J2 r = J1 r := fun r a b => by
      show jrow (jrow _ _ _) _ _ r = _
      rw [jrow_ne a, jrow_ne b]
    have k355 : J2 355 = e := by
      show jrow (jrow _ _ _) _ _ 355 = _
      rw [jrow_ne (by decide), jrow_same]
    have k353 : J2 353 = sset (sset (J 353) 0 0) 15 0 := jrow_same
    have k130 : J2 130 = sset (sset (J 130) 1 0) 2 0 := by
      rw [f2 130 (by decide) (by decide)]
      exact jrow_same
    refine ⟨oI (e 0), J1, e 0, J2, fun Q => ?_, fun Q => ?_, ⟨⟨?_, fun i i0 i1 => ?_⟩, ?_, ?_, ⟨?_, ?_, ?_, fun i i0 i1 => ?_⟩, ?_, fun hq => ?_⟩, ⟨⟨?_, ?_, fun i i0 i1 => ?_⟩, ?_, ?_, ⟨?_, ?_, fun i i0 i1 => ?_⟩, ?_, fun hq => ?_⟩, Or.inl ⟨rfl, ?_⟩⟩
    · rw [sg_158_0]
      simp (disch := first | assumption | omega) only [g9, jI_cl, jm_n, jz_n, i_lit, i_c0, i_c1, Int.toNat_of_nonneg, Int.toNat_natCast, jrow_same, jrow_ne, jrow_jrow, sset_eq, sset_ne]
      rw [if_neg (by rw [v]; decide), sp_62 zStk_49 (by unfold zStk; decide) (by decide)]
      simp only [zk_l, zk_r, Option.toList_some, Option.toList_none, List.cons_append, List.nil_append, zrokB, zrokB0, zrokB1, zrokJ0, zrokJ1, and_true, true_and, and_self, if_true, if_false, b2_0, b2_1, b2_not, ite_self]
      rw [sg_158_29, sg_14_0]
      have e1 : cpyJ J 49 103 130 = J 130 := cpyJ_fr 130 (by decide)
      simp (disch := first | assumption | omega) only [e1, zk_l, zk_r, Option.toList_some, Option.toList_none, List.cons_append, List.nil_append, zrokB, zrokB0, zrokB1, zrokJ0, zrokJ1, and_true, true_and, and_self, if_true, if_false, b2_0, b2_1, b2_not, ite_self, jI_cl, jm_n, jz_n, i_lit, i_c0, i_c1, Int.toNat_of_nonneg, Int.toNat_natCast, jrow_same, jrow_ne, jrow_jrow, sset_eq, sset_ne]
      rw [sg_158_36]
      have e2 : jm J1 49 1 = jI (e 0) := congrArg jI hrs.1
      exact (congrArg (fun x => Q (.inl (some (.int x))) (jm J1)) e2)
    · rw [sg_327_0]
      simp (disch := first | assumption | omega) only [q353, jI_cl, jm_n, jz_n, i_lit, i_c0, i_c1, Int.toNat_of_nonneg, Int.toNat_natCast, jrow_same, jrow_ne, jrow_jrow, sset_eq, sset_ne]
      rw [v]
      refine Eq.trans (sp_178t (W := W) 1) ?_
      simp only [zk_l, zk_r, Option.toList_some, Option.toList_none, List.cons_append, List.nil_append, zrokB, zrokB0, zrokB1, zrokJ0, zrokJ1, and_true, true_and, and_self, if_true, if_false, b2_0, b2_1, b2_not, ite_self]
      rw [sg_327_14, if_pos (by decide), sp_196 za_360 za_355 (by decide) (by decide) (by decide) (by decide) (by decide), jrow_ne (show 355 ≠ 353 by decide), jrow_ne (show 360 ≠ 353 by decide), q355, q360]
      simp only [zk_l, zk_r, Option.toList_some, Option.toList_none, List.cons_append, List.nil_append, zrokB, zrokB0, zrokB1, zrokJ0, zrokJ1, and_true, true_and, and_self, if_true, if_false, b2_0, b2_1, b2_not, ite_self]
      rw [sg_327_30]
      have e3 : jrow (jrow J1 353 (sset (J 353) 0 0)) 355 e 353 = sset (J 353) 0 0 := by rw [jrow_ne (by decide), jrow_same]
      have e6 : jrow (jrow (jrow J1 353 (sset (J 353) 0 0)) 355 e) 353 (sset (sset (J 353) 0 0) 15 0) = J2 := by
        funext r
        show _ = jrow (jrow J1 355 e) 353 (sset (sset (J 353) 0 0) 15 0) r
        by_cases c : r = 353
        · rw [c, jrow_same, jrow_same]
        · rw [jrow_ne c, jrow_ne c]
          by_cases c2 : r = 355
          · rw [c2, jrow_same, jrow_same]
          · rw [jrow_ne c2, jrow_ne c2, jrow_ne c]
      have e7 : zset (jm (jrow (jrow J1 353 (sset (J 353) 0 0)) 355 e)) 353 15 (jI 0) = jm J2 := by
        have := jz_n (J := jrow (jrow J1 353 (sset (J 353) 0 0)) 355 e) (a := 353) (n := 15) (v := 0)
        rw [e3] at this
        exact this.trans (congrArg jm e6)
      show (_ ∧ Q (.inl (some (.int ((zset (jm (jrow (jrow J1 353 (sset (J 353) 0 0)) 355 e)) 353 15 (jI 0)) 355 (jI 0).toNatClampNeg)))) (zset (jm (jrow (jrow J1 353 (sset (J 353) 0 0)) 355 e)) 353 15 (jI 0))) = _
      rw [e7]
      have e8 : jm J2 355 (jI 0).toNatClampNeg = jI (e 0) := by
        show jI (J2 355 0) = _
        rw [k355]
      rw [e8]
      exact and_iff_r (by decide)
    · rw [f2 0 (by decide) (by decide), f1 0 (by decide) (by decide), k353, sset_ne (by decide), sset_ne (by decide)]; exact g1
    · rw [k353, sset_ne (by decide), sset_ne (by decide)] at i1
      rw [f2 2 (by decide) (by decide), f1 2 (by decide) (by decide), f2 354 (by decide) (by decide), f1 354 (by decide) (by decide)]; exact g2 i i0 i1
    · rw [k355]; exact RS_fr hrs (fun r a b => f2 r (by omega) (by omega))
    · rw [k355]; exact RU_same (RU_fr g4 t2 (fun r a b => by rw [f2 r (by omega) (by omega), f1 r (by omega) (by omega)])) t2 hse
    · rw [k130, k353, sset_eq rfl, sset_eq rfl]
    · rw [k130, sset_ne (by decide), sset_eq rfl]; decide
    · rw [k130, sset_ne (by decide), sset_eq rfl]; decide
    · rw [k353, sset_eq rfl] at i1; omega
    · rw [f2 0 (by decide) (by decide), f1 0 (by decide) (by decide), k353, sset_ne (by decide), sset_ne (by decide)]; exact g9
    · rw [f2 360 (by decide) (by decide), q360]
      exact RS_fr y1 (fun r a b => by rw [f2 r (by omega) (by omega), f1 r (by omega) (by omega)])
    · rw [k353, sset_ne (by decide), sset_ne (by decide)]; exact h1
    · rw [k353, sset_ne (by decide), sset_ne (by decide)]; exact h2
    · rw [k353, sset_ne (by decide), sset_ne (by decide)] at i1
      rw [f2 354 (by decide) (by decide), f1 354 (by decide) (by decide)]; exact h3 i i0 i1
    · rw [k355]; exact okK_same t2 hse
    · rw [k355]; exact okD_mono (okD_eqS hKh x2 he) (Int.le_refl _) (by omega)
    · rw [k353, sset_eq rfl]; decide
    · rw [k353, sset_eq rfl]; decide
    · rw [k353, sset_eq rfl] at i1; omega
    · rw [k353, sset_ne (by decide), sset_ne (by decide)]; exact h9
    · rw [k355, f2 360 (by decide) (by decide), q360]
      exact ⟨same_eqS hKh he |> same_symm, okD_mono x2 (Int.le_refl _) (by omega)⟩
    · rw [k353, sset_ne (by decide), sset_eq rfl]
  · have v0 : J 353 17 = 0 := by omega
    refine opq g t ⟨oE 2, J, 0, jrow J 353 (sset (J 353) 0 1), fun Q => ?_, fun Q => ?_, kp_thr, mt_er 0 2 rfl rfl⟩
    · rw [sg_158_0]
      simp (disch := first | assumption | omega) only [g9, jI_cl, jm_n, jz_n, i_lit, i_c0, i_c1, Int.toNat_of_nonneg, Int.toNat_natCast, jrow_same, jrow_ne, jrow_jrow, sset_eq, sset_ne]
      rw [if_pos (by rw [v0]; rfl)]
    · rw [sg_327_0]
      simp (disch := first | assumption | omega) only [jI_cl, jm_n, jz_n, i_lit, i_c0, i_c1, Int.toNat_of_nonneg, Int.toNat_natCast, jrow_same, jrow_ne, jrow_jrow, sset_eq, sset_ne]
      rw [v0]
      refine Eq.trans (sp_178f (W := W) 1) ?_
      simp only [sset_ss, zk_l, zk_r, Option.toList_some, Option.toList_none, List.cons_append, List.nil_append, zrokB, zrokB0, zrokB1, zrokJ0, zrokJ1, and_true, true_and, and_self, if_true, if_false, b2_0, b2_1, b2_not, ite_self, jI_cl, jm_n, jz_n, i_lit, i_c0, i_c1, Int.toNat_of_nonneg, Int.toNat_natCast, jrow_same, jrow_ne, jrow_jrow, sset_eq, sset_ne]
      rw [sg_327_14, if_neg (by decide)]
end
