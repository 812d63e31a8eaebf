/-! ===== serve, availableFor ===== -/
theorem hpush_eqS {T T' : zJ} {s s' : Int → Int} (h : hpush T T' s) (e : eqS s' s) : hpush T T' s' := ⟨fun a => ⟨(h.1 a).1, (h.1 a).2.1, eqS_trans e (h.1 a).2.2⟩, fun a => ⟨(h.2 a).1, (h.2 a).2.1, eqS_trans e (h.2 a).2.2⟩⟩
/-- nothing of account is changed, but the state's far places -/
def kpe (J J' : zJ) : Prop := (∀ r, (r = 0 ∨ r = 2 ∨ (5 ≤ r ∧ r ≤ 26) ∨ (49 ≤ r ∧ r ≤ 75) ∨ (103 ≤ r ∧ r ≤ 130) ∨ (132 ≤ r ∧ r ≤ 347) ∨ r = 354 ∨ r = 359 ∨ r = 360) → J' r = J r) ∧ eqS (J 355) (J' 355) ∧ J' 353 2 = J 353 2 ∧ J' 353 15 = J 353 15 ∧ J' 353 17 = J 353 17
theorem GCT_kpe {J J' : zJ} {k k' : Int} (g : GC J J) (t : GT k J) (p : kpe J J') (hk : k ≤ k') : GC J' J' ∧ GT k' J' := by
  obtain ⟨⟨g1, g2⟩, g3, g4, ⟨g5, g6, g7, g8⟩, g9, g10⟩ := g
  obtain ⟨⟨h1, h2, h3⟩, h4, h5, ⟨h6, h7, h8⟩, h9, h10⟩ := t
  obtain ⟨k1, ke, k2, k3, k4⟩ := p
  obtain ⟨a1, a2, a3, a4, a5, a6⟩ := h5.1
  have e0 := k1 0 (by omega)
  have e2 := k1 2 (by omega)
  have e130 := k1 130 (by omega)
  have e354 := k1 354 (by omega)
  have e359 := k1 359 (by omega)
  have e360 := k1 360 (by omega)
  have eh : ∀ e, hs J' e = hs J e := fun e => by unfold hs; rw [e359]
  have hse := same_eqS h4 ke
  refine ⟨⟨⟨by rw [e0, k2]; exact g1, fun i i0 i1 => by rw [e2, e354]; exact g2 i i0 (by omega)⟩, ?_, ?_, ⟨by rw [e130, k3]; exact g5, by rw [e130]; exact g6, by rw [e130]; exact g7, fun e a b => ?_⟩, by rw [e0, k4]; exact g9, fun hq => ?_⟩, ⟨⟨by omega, by omega, fun i i0 i1 => by rw [e354]; exact h3 i i0 (by omega)⟩, okK_same h4 hse, okD_mono (okD_eqS h4 h5 ke) (Int.le_refl _) hk, ⟨by omega, by omega, fun e a b => ?_⟩, by rw [k4]; exact h9, fun hq => ?_⟩⟩
  · exact RS_fr (RS_eqS h4 a4 a6 g3 ke) (fun r a b => k1 r (by omega))
  · exact RU_same (RU_fr g4 h4 (fun r a b => k1 r (by omega))) h4 hse
  · rw [e130, eh]
    exact RS_fr (g8 e a (by omega)) (fun r a b => k1 r (by unfold hb at a b; omega))
  · rw [e360]
    exact RS_fr (g10 (by omega)) (fun r a b => k1 r (by omega))
  · rw [eh]
    obtain ⟨x, y⟩ := h8 e a (by omega)
    exact ⟨same_trans (same_symm hse) x, okD_mono y (Int.le_refl _) hk⟩
  · rw [e360]
    obtain ⟨x, y⟩ := h10 (by omega)
    exact ⟨same_trans (same_symm hse) x, okD_mono y (Int.le_refl _) hk⟩
section
variable {W : zW} {k : Int}
theorem opqe {hm : List Nat} {yC yR : Nat} {aC aR : List Value} {J : zJ} (g : GC J J) (t : GT k J) (h : ∃ o J1 v J2, (∀ Q : zO → zI → Prop, wz W yC 0 aC [] (jm J) Q = Q o (jm J1)) ∧ (∀ Q : zO → zI → Prop, wz W yR 0 aR [] (jm J1) Q = Q (oI v) (jm J2)) ∧ kpe J J2 ∧ mtc hm o (J2 353 0) v) : OpR W k hm yC yR aC aR J := by
  obtain ⟨o, J1, v, J2, h1, h2, h3, h4⟩ := h
  obtain ⟨h5, h6⟩ := GCT_kpe g t h3 (show k ≤ k + 42 by omega)
  exact ⟨o, J1, v, J2, h1, h2, h5, h6, h4⟩
/-- the trial put back: the reference -/
theorem kpe_back {J J1 Jc J' : zJ} {t : Int → Int} {f : Int} {e : Int → Int} (h1 : kp J J1) (hc1 : ∀ r, r ≠ 353 → r ≠ 357 → Jc r = J1 r) (hc2 : ∀ i, i ≠ 0 → i ≠ 18 → Jc 353 i = J1 353 i) (hs : sM Jc J' t f) (he : eqS (J 355) e) (v : Int → Int) (hv : ∀ i, i ≠ 0 → v i = J' 353 i) : kpe J (jrow (jrow J' 355 (scpy e (J' 355) 472)) 353 v) := by
  obtain ⟨s1, s2, s3, s4⟩ := hs
  obtain ⟨k1, k2, k3, k4⟩ := h1
  have hi : ∀ i, i ≠ 0 → i ≠ 18 → jrow (jrow J' 355 (scpy e (J' 355) 472)) 353 v 353 i = J1 353 i := fun i i0 i1 => by
    rw [jrow_same, hv i i0, s3 i i1, hc2 i i0 i1]
  refine ⟨fun r hr => ?_, ?_, by rw [hi 2 (by decide) (by decide)]; exact k2, by rw [hi 15 (by decide) (by decide)]; exact k3, by rw [hi 17 (by decide) (by decide)]; exact k4⟩
  · rw [jrow_ne (by omega), jrow_ne (by omega), s4 r (by omega) (by omega) (by omega), hc1 r (by omega) (by omega)]
    exact k1 r (by omega)
  · rw [jrow_ne (by decide), jrow_same]
    exact eqS_trans he (eqS_symm (scpy_eqS _ _))
theorem op_availableFor (hk : k ≤ 21500) {a : Int} (a1 : -2147483648 ≤ a) (a2 : a < 2147483648) : Op W k [0] 152 259 [.ref 0, .int (jI a)] [.ref 353, .int (jI a), .float 0] := by
  have hk : k ≤ 30000 := by omega
  intro J g t
  obtain ⟨-, t2, t3, -⟩ := id t
  obtain ⟨a1', a2', a3', a4', a5', a6'⟩ := t3.1
  obtain ⟨b1, b2x, b3, b4, b5, b6, b7, b8, b9, b10, b11, b12⟩ := t2.1
  obtain ⟨-, hS, hU, -⟩ := id g
  obtain ⟨d1, d2, d3, hpl, hq, hc, ho⟩ := id hS
  have hcx := GC_cx g t hk
  have hu6 := hU.2.2.1
  by_cases v : 0 ≤ a ∧ a < J 355 7
  · obtain ⟨-, -, -, -, -, -, -, -, -, huo⟩ := id hU
    obtain ⟨u1, u2, u3⟩ := huo a v.1 v.2
    obtain ⟨o1, o2, o3, o4, o5, o6⟩ := t2.2.2.2 a v.1 v.2
    have hx0 : CX (cpyJ J 76 49) 76 (J 355) 365 k := try_cx hcx (J 355) (eqS_refl _) (by decide)
    have hx1 : CX (cpyJ J 76 49) 76 (svs (J 355) (J 355 (352 + 4 * a)) 0) 365 (k + (0 : Nat)) := by
      rw [show k + ((0 : Nat) : Int) = k by omega]
      exact hx0
    obtain ⟨J1, c1, c2, c3⟩ := sp_172 (W := W) hx0 (g := J 355 (352 + 4 * a)) o1 (by omega) (by omega) 40 0 (by decide) _ hx1
    have hfr : ∀ r, (r < 76 ∨ 103 ≤ r) → J1 r = J r := fun r hr => by rw [c3 r (by omega), cpyJ_fr r (by omega)]
    have f355 := hfr 355 (by decide)
    have e9 : ∀ f, jrow J1 353 f 355 = J 355 := fun f => e355.trans f355
    let e : Int → Int := scpy (J 355) (J1 357) 472
    have he : eqS (J 355) e := eqS_symm (scpy_eqS _ _)
    let Jc : zJ := jrow (jrow (jrow J1 353 (sset (J1 353) 0 0)) 357 e) 353 (sset (sset (J1 353) 0 0) 18 0)
    have hc355 : Jc 355 = J 355 := by
      show jrow (jrow (jrow _ _ _) _ _) _ _ 355 = _
      rw [jrow_ne (by decide), jrow_ne (by decide), e9]
    have hc353 : Jc 353 = sset (sset (J1 353) 0 0) 18 0 := jrow_same
    have hc357 : Jc 357 = e := by
      show jrow (jrow (jrow _ _ _) _ _) _ _ 357 = _
      rw [jrow_ne (by decide), jrow_same]
    obtain ⟨J', r1, r2⟩ := sp_257 (W := W) (s := J 355) t2 t3 (by decide) (g := J 355 (352 + 4 * a)) o1 (by omega) 40 0 (by decide) Jc hc355 (by rw [hc353, sset_eq rfl]; rfl)
    have hJ'0 : J' 353 0 = 0 := by rw [r2.2.2.1 0 (by decide), hc353, sset_ne (by decide), sset_eq rfl]
    have h357 : J' 357 = e := by rw [r2.2.2.2 357 (by decide) (by decide) (by decide), hc357]
    have hkpe := kpe_back (J := J) (J1 := J1) (Jc := Jc) (kp_76 hfr) (fun r h3 h7 => by
      show jrow (jrow (jrow _ _ _) _ _) _ _ r = _
      rw [jrow_ne h3, jrow_ne h7, jrow_ne h3]) (fun i i0 i1 => by rw [hc353, sset_ne i1, sset_ne i0]) r2 he (J' 353) (fun i _ => rfl)
    have e10 : jrow (jrow J' 355 (scpy e (J' 355) 472)) 353 (J' 353) = jrow J' 355 (scpy e (J' 355) 472) := by
      have : J' 353 = jrow J' 355 (scpy e (J' 355) 472) 353 := by rw [jrow_ne (by decide)]
      rw [this, jrow_id]
    rw [e10] at hkpe
    refine opqe g t ⟨oI (svf (J 355) (J 355 (352 + 4 * a)) 40 0), J1, svf (J 355) (J 355 (352 + 4 * a)) 40 0, jrow J' 355 (scpy e (J' 355) 472), fun Q => ?_, fun Q => ?_, hkpe, Or.inl ⟨rfl, by rw [jrow_ne (by decide)]; exact hJ'0⟩⟩
    · rw [sg_152_0, sp_165v v.1 (by omega) (by omega)]
      simp only [zk_l, zk_r, Option.toList_some, Option.toList_none, List.cons_append, List.nil_append, zrokB, zrokB0, zrokB1, zrokJ0, zrokJ1, and_true, true_and, and_self, if_true, if_false, b2_0, b2_1, b2_not, ite_self]
      rw [sg_152_5, sp_62 zStk_76 zStk_49 (by decide)]
      simp only [zk_l, zk_r, Option.toList_some, Option.toList_none, List.cons_append, List.nil_append, zrokB, zrokB0, zrokB1, zrokJ0, zrokJ1, and_true, true_and, and_self, if_true, if_false, b2_0, b2_1, b2_not, ite_self]
      rw [sg_152_16, sp_45 (zStp_r7 zStp_5) v.1 (by omega) (by decide), cpyJ_fr _ (by decide), u1]
      simp only [zk_l, zk_r, Option.toList_some, Option.toList_none, List.cons_append, List.nil_append, zrokB, zrokB0, zrokB1, zrokJ0, zrokJ1, and_true, true_and, and_self, if_true, if_false, b2_0, b2_1, b2_not, ite_self]
      rw [sg_152_28, sg_172_0]
      refine (c1 _ _).trans ?_
      simp only [zk_l, zk_r, Option.toList_some, Option.toList_none, List.cons_append, List.nil_append, zrokB, zrokB0, zrokB1, zrokJ0, zrokJ1, and_true, true_and, and_self, if_true, if_false, b2_0, b2_1, b2_not, ite_self]
      rw [sg_152_33]
    · rw [sg_259_0]
      simp (disch := first | assumption | omega) only [jI_cl, jm_n, jz_n, i_lit, i_c0, i_c1, Int.toNat_of_nonneg, Int.toNat_natCast, jrow_same, jrow_ne, jrow_jrow, sset_eq, sset_ne]
      rw [sp_218v v.1 (by rw [e9]; exact v.2) (by rw [e9]; exact b12)]
      simp only [zk_l, zk_r, Option.toList_some, Option.toList_none, List.cons_append, List.nil_append, zrokB, zrokB0, zrokB1, zrokJ0, zrokJ1, and_true, true_and, and_self, if_true, if_false, b2_0, b2_1, b2_not, ite_self]
      rw [sg_259_11, sp_178t]
      simp only [zk_l, zk_r, Option.toList_some, Option.toList_none, List.cons_append, List.nil_append, zrokB, zrokB0, zrokB1, zrokJ0, zrokJ1, and_true, true_and, and_self, if_true, if_false, b2_0, b2_1, b2_not, ite_self]
      rw [sg_259_15, if_pos (by decide), sp_196 za_355 za_357 (by decide) (by decide) (by decide) (by decide) (by decide), e9, jrow_ne (show 357 ≠ 353 by decide)]
      simp only [zk_l, zk_r, Option.toList_some, Option.toList_none, List.cons_append, List.nil_append, zrokB, zrokB0, zrokB1, zrokJ0, zrokJ1, and_true, true_and, and_self, if_true, if_false, b2_0, b2_1, b2_not, ite_self]
      rw [sg_259_31]
      have e11 : jrow (jrow J1 353 (sset (J1 353) 0 0)) 357 e 355 = J 355 := by rw [jrow_ne (by decide), e9]
      have e12 : jrow (jrow J1 353 (sset (J1 353) 0 0)) 357 e 353 = sset (J1 353) 0 0 := by rw [jrow_ne (by decide), jrow_same]
      show (_ ∧ wz W 257 0 [.ref 353, .int (jm (jrow (jrow J1 353 (sset (J1 353) 0 0)) 357 e) 355 ((jI 352) + ((jI 4) * (jI a))).toNatClampNeg), .int (jI 40), .float 0] [] (jm (jrow (jrow J1 353 (sset (J1 353) 0 0)) 357 e)) _) = _
      simp (disch := first | assumption | omega) only [e11, zk_l, zk_r, Option.toList_some, Option.toList_none, List.cons_append, List.nil_append, zrokB, zrokB0, zrokB1, zrokJ0, zrokJ1, and_true, true_and, and_self, if_true, if_false, b2_0, b2_1, b2_not, ite_self, Int.add_zero, jI_nat, jI_add, jI_sub, jI_mul, jI_neg, jI_lt, jI_le, jI_eq, jI_lt0, jI_0lt, jI_le0, jI_0le, jI_eq0, jI_in, jI_dv, i_mod, jI_cl, jm_n, jz_n, i_lit, i_c0, i_c1, Int.toNat_of_nonneg, Int.toNat_natCast, jrow_same, jrow_ne, jrow_jrow, sset_eq, sset_ne]
      rw [sg_257_0]
      simp (disch := first | assumption | omega) only [e12, jI_cl, jm_n, jz_n, i_lit, i_c0, i_c1, Int.toNat_of_nonneg, Int.toNat_natCast, jrow_same, jrow_ne, jrow_jrow, sset_eq, sset_ne]
      refine (r1 _).trans ?_
      simp only [zk_l, zk_r, Option.toList_some, Option.toList_none, List.cons_append, List.nil_append, zrokB, zrokB0, zrokB1, zrokJ0, zrokJ1, and_true, true_and, and_self, if_true, if_false, b2_0, b2_1, b2_not, ite_self]
      rw [sg_259_49, sp_196 za_357 za_355 (by decide) (by decide) (by decide) (by decide) (by decide), h357]
      simp only [zk_l, zk_r, Option.toList_some, Option.toList_none, List.cons_append, List.nil_append, zrokB, zrokB0, zrokB1, zrokJ0, zrokJ1, and_true, true_and, and_self, if_true, if_false, b2_0, b2_1, b2_not, ite_self]
      rw [sg_259_61]
  · refine opq g t ⟨oE 0, J, 0, jrow J 353 (sset (J 353) 0 1), fun Q => ?_, fun Q => ?_, kp_thr, mt_er 0 0 rfl rfl⟩
    · rw [sg_152_0, sp_165n a1 a2 (by rw [hu6]; exact v) (by omega) (by omega)]
      simp only [zk_l, zk_r, Option.toList_some, Option.toList_none, List.cons_append, List.nil_append, zrokB, zrokB0, zrokB1, zrokJ0, zrokJ1, and_true, true_and, and_self, if_true, if_false, b2_0, b2_1, b2_not, ite_self]
    · rw [sg_259_0]
      simp (disch := first | assumption | omega) only [jI_cl, jm_n, jz_n, i_lit, i_c0, i_c1, Int.toNat_of_nonneg, Int.toNat_natCast, jrow_same, jrow_ne, jrow_jrow, sset_eq, sset_ne]
      rw [sp_218n a1 a2 (by rw [e355]; exact v) (by rw [e355]; exact b11) (by rw [e355]; exact b12)]
      simp only [zk_l, zk_r, Option.toList_some, Option.toList_none, List.cons_append, List.nil_append, zrokB, zrokB0, zrokB1, zrokJ0, zrokJ1, and_true, true_and, and_self, if_true, if_false, b2_0, b2_1, b2_not, ite_self]
      rw [sg_259_11, sp_178f]
      simp only [sset_ss, zk_l, zk_r, Option.toList_some, Option.toList_none, List.cons_append, List.nil_append, zrokB, zrokB0, zrokB1, zrokJ0, zrokJ1, and_true, true_and, and_self, if_true, if_false, b2_0, b2_1, b2_not, ite_self, jI_cl, jm_n, jz_n, i_lit, i_c0, i_c1, Int.toNat_of_nonneg, Int.toNat_natCast, jrow_same, jrow_ne, jrow_jrow, sset_eq, sset_ne]
      rw [sg_259_15, if_neg (by decide)]
theorem op_serve (hk : k ≤ 21500) {a : Int} (a1 : -2147483648 ≤ a) (a2 : a < 2147483648) : Op W k [0, 2] 110 258 [.ref 0, .int (jI a), .float 0, .float 0] [.ref 353, .int (jI a), .float 0] := by
  have hk : k ≤ 30000 := by omega
  intro J g t
  obtain ⟨-, t2, t3, -⟩ := id t
  obtain ⟨a1', a2', a3', a4', a5', a6'⟩ := t3.1
  obtain ⟨b1, b2x, b3, b4, b5, b6, b7, b8, b9, b10, b11, b12⟩ := t2.1
  obtain ⟨-, hS, hU, -⟩ := id g
  obtain ⟨d1, d2, d3, hpl, hq, hc, ho⟩ := id hS
  have hcx := GC_cx g t hk
  have hu6 := hU.2.2.1
  by_cases v : 0 ≤ a ∧ a < J 355 7
  · obtain ⟨-, -, -, -, -, -, -, -, -, huo⟩ := id hU
    obtain ⟨u1, u2, u3⟩ := huo a v.1 v.2
    obtain ⟨o1, o2, o3, o4, o5, o6⟩ := t2.2.2.2 a v.1 v.2
    have hso := ho a v.1 v.2
    have hsv := t3.2.2.1 a v.1 v.2
    -- the reference, till the first note
    have href : ∀ (J2 : zJ), J2 355 = J 355 → ∀ Q : zO → zI → Prop, wz W 258 0 [.ref 353, .int (jI a), .float 0] [] (jm J2) Q = wz W 178 0 [.ref 353, .int (b2 (decide (J 355 (352 + 4 * a + 3) = 0) && decide (J 355 0 ≤ J 355 (352 + 4 * a + 2)))), .int (jI 2)] [] (jm (jrow J2 353 (sset (J2 353) 0 0))) (zk Q (fun v I1 => wz W 258 66 [.ref 353, .int (jI a), .int (jI (352 + 4 * a))] (v.toList ++ []) I1 Q)) := by
      intro J2 e55 Q
      have e9 : ∀ f, jrow J2 353 f 355 = J 355 := fun f => e355.trans e55
      rw [sg_258_0]
      simp (disch := first | assumption | omega) only [jI_cl, jm_n, jz_n, i_lit, i_c0, i_c1, Int.toNat_of_nonneg, Int.toNat_natCast, jrow_same, jrow_ne, jrow_jrow, sset_eq, sset_ne]
      rw [sp_218v v.1 (by rw [e9]; exact v.2) (by rw [e9]; exact b12)]
      simp only [zk_l, zk_r, Option.toList_some, Option.toList_none, List.cons_append, List.nil_append, zrokB, zrokB0, zrokB1, zrokJ0, zrokJ1, and_true, true_and, and_self, if_true, if_false, b2_0, b2_1, b2_not, ite_self]
      rw [sg_258_11, sp_178t]
      simp only [zk_l, zk_r, Option.toList_some, Option.toList_none, List.cons_append, List.nil_append, zrokB, zrokB0, zrokB1, zrokJ0, zrokJ1, and_true, true_and, and_self, if_true, if_false, b2_0, b2_1, b2_not, ite_self]
      rw [sg_258_15, if_pos (by decide)]
      simp (disch := first | assumption | omega) only [e9, zk_l, zk_r, Option.toList_some, Option.toList_none, List.cons_append, List.nil_append, zrokB, zrokB0, zrokB1, zrokJ0, zrokJ1, and_true, true_and, and_self, if_true, if_false, b2_0, b2_1, b2_not, ite_self, Int.add_zero, jI_nat, jI_add, jI_sub, jI_mul, jI_neg, jI_lt, jI_le, jI_eq, jI_lt0, jI_0lt, jI_le0, jI_0le, jI_eq0, jI_in, jI_dv, i_mod, jI_cl, jm_n, jz_n, i_lit, i_c0, i_c1, Int.toNat_of_nonneg, Int.toNat_natCast, jrow_same, jrow_ne, jrow_jrow, sset_eq, sset_ne]
      by_cases c : J 355 (352 + 4 * a + 3) = 0
      · rw [if_pos c, decide_eq_true c, Bool.true_and]
        by_cases c2 : J 355 0 ≤ J 355 (352 + 4 * a + 2)
        · rw [if_neg (by omega), sg_258_62, decide_eq_true c2]; rfl
        · rw [if_pos (by omega), sg_258_61, sg_258_62, decide_eq_false c2]; rfl
      · rw [if_neg c, sg_258_61, sg_258_62, decide_eq_false c, Bool.false_and]; rfl
    by_cases w : J 355 (352 + 4 * a + 3) = 0 ∧ J 355 0 ≤ J 355 (352 + 4 * a + 2)
    · obtain ⟨pn, hpn⟩ : ∃ pn : Nat, J 355 (352 + 4 * a + 1) = pn := ⟨(J 355 (352 + 4 * a + 1)).toNat, by omega⟩
      have hx0 : CX (cpyJ J 76 49) 76 (J 355) 365 k := try_cx hcx (J 355) (eqS_refl _) (by decide)
      have hx1 : CX (cpyJ J 76 49) 76 (svs (J 355) (J 355 (352 + 4 * a)) 0) 365 (k + (0 : Nat)) := by
        rw [show k + ((0 : Nat) : Int) = k by omega]
        exact hx0
      obtain ⟨J1, c1, c2, c3⟩ := sp_172 (W := W) hx0 (g := J 355 (352 + 4 * a)) o1 (by omega) (by omega) pn 0 (by omega) _ hx1
      rw [Nat.zero_add] at c1
      have hfr : ∀ r, (r < 76 ∨ 103 ≤ r) → J1 r = J r := fun r hr => by rw [c3 r (by omega), cpyJ_fr r (by omega)]
      have hle := svf_le (J 355) (J 355 (352 + 4 * a)) pn 0
      obtain ⟨v1, v2, v3, v4⟩ := svs_ok t2 t3 (J 355 (352 + 4 * a)) (svf (J 355) (J 355 (352 + 4 * a)) pn 0)
      have hcls : ∀ Q : zO → zI → Prop, wz W 110 0 [.ref 0, .int (jI a), .float 0, .float 0] [] (jm J) Q = wz W 110 89 [.ref 0, .int (jI a), .int (jI pn), .float 0] [.int (jI (svf (J 355) (J 355 (352 + 4 * a)) pn 0))] (jm J1) Q := by
        intro Q
        rw [sg_110_0, sp_165v v.1 (by omega) (by omega)]
        simp only [zk_l, zk_r, Option.toList_some, Option.toList_none, List.cons_append, List.nil_append, zrokB, zrokB0, zrokB1, zrokJ0, zrokJ1, and_true, true_and, and_self, if_true, if_false, b2_0, b2_1, b2_not, ite_self]
        rw [sg_110_5, sp_45 (zStk_r16 zStk_49) v.1 (by omega) (by decide), hso]
        simp only [zk_l, zk_r, Option.toList_some, Option.toList_none, List.cons_append, List.nil_append, zrokB, zrokB0, zrokB1, zrokJ0, zrokJ1, and_true, true_and, and_self, if_true, if_false, b2_0, b2_1, b2_not, ite_self]
        rw [sg_110_16, if_pos (by rw [w.1]; rfl), sp_45 (zStp_r9 zStp_5) v.1 (by omega) (by decide), u3]
        simp (disch := first | assumption | omega) only [d1, zk_l, zk_r, Option.toList_some, Option.toList_none, List.cons_append, List.nil_append, zrokB, zrokB0, zrokB1, zrokJ0, zrokJ1, and_true, true_and, and_self, if_true, if_false, b2_0, b2_1, b2_not, ite_self, jI_cl, jm_n, jz_n, i_lit, i_c0, i_c1, Int.toNat_of_nonneg, Int.toNat_natCast, jrow_same, jrow_ne, jrow_jrow, sset_eq, sset_ne]
        rw [sg_110_37, if_pos (by rw [jI_le (by omega) (by omega) (by omega) (by omega)]; exact w.2), sp_45 (zStp_r8 zStp_5) v.1 (by omega) (by decide), u2, hpn]
        simp only [zk_l, zk_r, Option.toList_some, Option.toList_none, List.cons_append, List.nil_append, zrokB, zrokB0, zrokB1, zrokJ0, zrokJ1, and_true, true_and, and_self, if_true, if_false, b2_0, b2_1, b2_not, ite_self]
        rw [sg_110_61, sp_62 zStk_76 zStk_49 (by decide)]
        simp only [zk_l, zk_r, Option.toList_some, Option.toList_none, List.cons_append, List.nil_append, zrokB, zrokB0, zrokB1, zrokJ0, zrokJ1, and_true, true_and, and_self, if_true, if_false, b2_0, b2_1, b2_not, ite_self]
        rw [sg_110_73, sp_45 (zStp_r7 zStp_5) v.1 (by omega) (by decide), cpyJ_fr _ (by decide), u1]
        simp only [zk_l, zk_r, Option.toList_some, Option.toList_none, List.cons_append, List.nil_append, zrokB, zrokB0, zrokB1, zrokJ0, zrokJ1, and_true, true_and, and_self, if_true, if_false, b2_0, b2_1, b2_not, ite_self]
        rw [sg_110_85, sg_172_0]
        refine (c1 _ _).trans ?_
        simp only [zk_l, zk_r, Option.toList_some, Option.toList_none, List.cons_append, List.nil_append, zrokB, zrokB0, zrokB1, zrokJ0, zrokJ1, and_true, true_and, and_self, if_true, if_false, b2_0, b2_1, b2_not, ite_self]
      -- the reference's taking
      have hrt : ∀ (J2 : zJ), (∀ r, 348 ≤ r → J2 r = J r) → ∃ J' Jc e, (∀ Q : zO → zI → Prop, wz W 258 0 [.ref 353, .int (jI a), .float 0] [] (jm J2) Q = wz W 178 0 [.ref 353, .int (b2 (decide (svf (J 355) (J 355 (352 + 4 * a)) pn 0 = pn))), .int (jI 2)] [] (jm J') (zk Q (fun v I1 => wz W 258 121 [.ref 353, .int (jI a), .int (jI (352 + 4 * a))] (v.toList ++ []) I1 Q))) ∧ sM Jc J' (svs (J 355) (J 355 (352 + 4 * a)) (svf (J 355) (J 355 (352 + 4 * a)) pn 0)) (frS (J 355) (J 355 (352 + 4 * a)) (svf (J 355) (J 355 (352 + 4 * a)) pn 0)) ∧ eqS (J 355) e ∧ Jc 357 = e ∧ Jc 353 0 = 0 ∧ (∀ i, i ≠ 0 → i ≠ 18 → Jc 353 i = J2 353 i) ∧ ∀ r, r ≠ 353 → r ≠ 357 → Jc r = J2 r := by
        intro J2 h348
        have e55 := h348 355 (by decide)
        have e9 : ∀ f, jrow J2 353 f 355 = J 355 := fun f => e355.trans e55
        let e : Int → Int := scpy (J 355) (J2 357) 472
        have he : eqS (J 355) e := eqS_symm (scpy_eqS _ _)
        let Jc : zJ := jrow (jrow (jrow J2 353 (sset (J2 353) 0 0)) 357 e) 353 (sset (sset (J2 353) 0 0) 18 0)
        have hc355 : Jc 355 = J 355 := by
          show jrow (jrow (jrow _ _ _) _ _) _ _ 355 = _
          rw [jrow_ne (by decide), jrow_ne (by decide), e9]
        have hc353 : Jc 353 = sset (sset (J2 353) 0 0) 18 0 := jrow_same
        have hc357 : Jc 357 = e := by
          show jrow (jrow (jrow _ _ _) _ _) _ _ 357 = _
          rw [jrow_ne (by decide), jrow_same]
        obtain ⟨J', r1, r2⟩ := sp_257 (W := W) (s := J 355) t2 t3 (by decide) (g := J 355 (352 + 4 * a)) o1 (by omega) pn 0 (by omega) Jc hc355 (by rw [hc353, sset_eq rfl]; rfl)
        rw [Nat.zero_add] at r1
        refine ⟨J', Jc, e, fun Q => ?_, r2, he, hc357, by rw [hc353, sset_ne (by decide), sset_eq rfl], fun i i0 i1 => by rw [hc353, sset_ne i1, sset_ne i0], fun r h3 h7 => by
          show jrow (jrow (jrow _ _ _) _ _) _ _ r = _
          rw [jrow_ne h3, jrow_ne h7, jrow_ne h3]⟩
        rw [href J2 e55, decide_eq_true w.1, decide_eq_true w.2]
        refine Eq.trans (sp_178t (W := W) 2) ?_
        simp only [zk_l, zk_r, Option.toList_some, Option.toList_none, List.cons_append, List.nil_append, zrokB, zrokB0, zrokB1, zrokJ0, zrokJ1, and_true, true_and, and_self, if_true, if_false, b2_0, b2_1, b2_not, ite_self]
        rw [sg_258_66, if_pos (by decide), sp_196 za_355 za_357 (by decide) (by decide) (by decide) (by decide) (by decide), e9, jrow_ne (show 357 ≠ 353 by decide)]
        simp only [zk_l, zk_r, Option.toList_some, Option.toList_none, List.cons_append, List.nil_append, zrokB, zrokB0, zrokB1, zrokJ0, zrokJ1, and_true, true_and, and_self, if_true, if_false, b2_0, b2_1, b2_not, ite_self]
        rw [sg_258_82]
        have e11 : jrow (jrow J2 353 (sset (J2 353) 0 0)) 357 e 355 = J 355 := by rw [jrow_ne (by decide), e9]
        have e12 : jrow (jrow J2 353 (sset (J2 353) 0 0)) 357 e 353 = sset (J2 353) 0 0 := by rw [jrow_ne (by decide), jrow_same]
        show (_ ∧ (_ ∧ wz W 257 0 [.ref 353, .int (jm (jrow (jrow J2 353 (sset (J2 353) 0 0)) 357 e) 355 (jI (352 + 4 * a)).toNatClampNeg), .int (jm (jrow (jrow J2 353 (sset (J2 353) 0 0)) 357 e) 355 (jI (352 + 4 * a) + jI 1).toNatClampNeg), .float 0] [] (jm (jrow (jrow J2 353 (sset (J2 353) 0 0)) 357 e)) _)) = _
        simp (disch := first | assumption | omega) only [e11, hpn, zk_l, zk_r, Option.toList_some, Option.toList_none, List.cons_append, List.nil_append, zrokB, zrokB0, zrokB1, zrokJ0, zrokJ1, and_true, true_and, and_self, if_true, if_false, b2_0, b2_1, b2_not, ite_self, Int.add_zero, jI_nat, jI_add, jI_sub, jI_mul, jI_neg, jI_lt, jI_le, jI_eq, jI_lt0, jI_0lt, jI_le0, jI_0le, jI_eq0, jI_in, jI_dv, i_mod, jI_cl, jm_n, jz_n, i_lit, i_c0, i_c1, Int.toNat_of_nonneg, Int.toNat_natCast, jrow_same, jrow_ne, jrow_jrow, sset_eq, sset_ne]
        rw [sg_257_0]
        simp (disch := first | assumption | omega) only [e12, jI_cl, jm_n, jz_n, i_lit, i_c0, i_c1, Int.toNat_of_nonneg, Int.toNat_natCast, jrow_same, jrow_ne, jrow_jrow, sset_eq, sset_ne]
        refine (r1 _).trans ?_
        simp only [zk_l, zk_r, Option.toList_some, Option.toList_none, List.cons_append, List.nil_append, zrokB, zrokB0, zrokB1, zrokJ0, zrokJ1, and_true, true_and, and_self, if_true, if_false, b2_0, b2_1, b2_not, ite_self]
        rw [sg_258_101]
        have e13 : J' 355 (352 + 4 * a + 1) = pn := by
          rw [r2.1, ← hpn]
          exact (v1.2.2.2.2.2.2.2.2 a v.1 v.2).2.1.symm
        simp (disch := first | assumption | omega) only [e13, zk_l, zk_r, Option.toList_some, Option.toList_none, List.cons_append, List.nil_append, zrokB, zrokB0, zrokB1, zrokJ0, zrokJ1, and_true, true_and, and_self, if_true, if_false, b2_0, b2_1, b2_not, ite_self, Int.add_zero, jI_nat, jI_add, jI_sub, jI_mul, jI_neg, jI_lt, jI_le, jI_eq, jI_lt0, jI_0lt, jI_le0, jI_0le, jI_eq0, jI_in, jI_dv, i_mod, jI_cl, jm_n, jz_n, i_lit, i_c0, i_c1, Int.toNat_of_nonneg, Int.toNat_natCast, jrow_same, jrow_ne, jrow_jrow, sset_eq, sset_ne]
        by_cases c : svf (J 355) (J 355 (352 + 4 * a)) pn 0 = pn
        · rw [if_pos (by rw [c]), sg_258_117, decide_eq_true c]; rfl
        · rw [if_neg (by omega), sg_258_117, decide_eq_false c]; rfl
      by_cases z : svf (J 355) (J 355 (352 + 4 * a)) pn 0 = pn
      · rw [z] at c1 c2 v1 v2 v3 v4 hcls
        generalize hgg : J 355 (352 + 4 * a) = gg at *
        have hKs := okK_same t2 v1
        have hv7 : svs (J 355) gg pn 7 = J 355 7 := v1.2.2.2.2.2.1.symm
        obtain ⟨y1, y2⟩ := srv_ok hKs v2 (o := a) v.1 (by rw [hv7]; exact v.2)
        let t' : Int → Int := sset (svs (J 355) gg pn) (352 + 4 * a + 3) 1
        have hst : same (J 355) t' := same_trans v1 y1
        have a4s := v2.1.2.2.2.1
        have a6s := v2.1.2.2.2.2.2
        -- the class
        let Jc : zJ := jrow J1 (76 + 25 + 1) (sset (J1 (76 + 25 + 1)) a 1)
        have hJc : ∀ r, (r < 76 ∨ 103 ≤ r) → Jc r = J r := fun r hr => by
          show jrow _ _ _ r = _
          rw [jrow_ne (by omega), hfr r hr]
        have hRSc : RS Jc 76 t' := by
          obtain ⟨x1, x2, x3, x4, x5, x6, x7⟩ := c2
          refine ⟨by show jrow _ _ _ 76 _ = sset _ _ _ _; rw [jrow_ne (by decide), sset_ne (by omega)]; exact x1, by show jrow _ _ _ 76 _ = sset _ _ _ _; rw [jrow_ne (by decide), sset_ne (by omega)]; exact x2, by show jrow _ _ _ 76 _ = sset _ _ _ _; rw [jrow_ne (by decide), sset_ne (by omega)]; exact x3, fun q q0 q1 => ?_, fun i i0 i1 => ?_, fun c c0 c1 => ?_, fun o o0 o1 => ?_⟩
          · have q1' : q < svs (J 355) gg pn 6 := by
              have : t' 6 = svs (J 355) gg pn 6 := sset_ne (by omega)
              omega
            show jrow _ _ _ (76 + 1 + 1) q = sset _ _ _ _ ∧ jrow _ _ _ (76 + 3 + 1) q = sset _ _ _ _ ∧ jrow _ _ _ (76 + 5 + 1) q = chOf (sset _ _ _ _) ∧ jrow _ _ _ (76 + 7 + 1) q = ceOf (sset _ _ _ _) ∧ jrow _ _ _ (76 + 9 + 1) q = sset _ _ _ _ ∧ (1 < sset _ _ _ _ → jrow _ _ _ (76 + 11 + 1) q = sset _ _ _ _) ∧ jrow _ _ _ (76 + 13 + 1) q = sset _ _ _ _ ∧ jrow _ _ _ (76 + 15 + 1) q = sset _ _ _ _
            simp (disch := first | assumption | omega) only [jrow_ne, sset_ne]
            exact x4 q q0 q1'
          · have i1' : i < svs (J 355) gg pn 8 := by
              have : t' 8 = svs (J 355) gg pn 8 := sset_ne (by omega)
              omega
            show jrow _ _ _ (76 + 17 + 1) i = sset _ _ _ _
            rw [jrow_ne (by decide), sset_ne (by omega)]
            exact x5 i i0 i1'
          · have c1' : c < svs (J 355) gg pn 4 := by
              have : t' 4 = svs (J 355) gg pn 4 := sset_ne (by omega)
              omega
            have h4 : svs (J 355) gg pn 4 = J 355 4 := v1.2.2.2.1.symm
            show jrow _ _ _ (76 + 19 + 1) c = sset _ _ _ _ ∧ jrow _ _ _ (76 + 21 + 1) c = sset _ _ _ _ ∧ jrow _ _ _ (76 + 23 + 1) c = sset _ _ _ _
            simp (disch := first | assumption | omega) only [jrow_ne, sset_ne]
            exact x6 c c0 c1'
          · have o1' : o < svs (J 355) gg pn 7 := by
              have : t' 7 = svs (J 355) gg pn 7 := sset_ne (by omega)
              omega
            show jrow _ _ _ (76 + 25 + 1) o = sset _ _ _ _
            rw [jrow_same]
            by_cases e : o = a
            · rw [e, sset_eq rfl, sset_eq rfl]
            · rw [sset_ne e, sset_ne (by omega)]
              exact x7 o o0 o1'
        have hkpc := kp_76 hJc
        obtain ⟨Jk, k1, k2, k3⟩ := keep_ok (W := W) (GC_kp g t2 hkpc) (GT_kp t hkpc (Int.le_refl _))
        have hRSk : RS Jk 76 t' := RS_fr hRSc (fun r a b => k2 r (by omega) (by omega))
        have ht4 : t' 4 ≤ 3 := by
          have : t' 4 = svs (J 355) gg pn 4 := sset_ne (by omega)
          have h4 : svs (J 355) gg pn 4 = J 355 4 := v1.2.2.2.1.symm
          omega
        have ht7 : t' 7 ≤ 10 := by
          have : t' 7 = svs (J 355) gg pn 7 := sset_ne (by omega)
          omega
        have hRS2 : RS (cpyJ Jk 49 76) 49 t' := cpyJ_RS hRSk y2.1.2.2.2.1 y2.1.2.2.2.2.2 ht4 ht7
        have h2fr : ∀ r, (r < 49 ∨ 76 ≤ r) → cpyJ Jk 49 76 r = Jk r := fun r hr => cpyJ_fr r (by omega)
        have h348 : ∀ r, 348 ≤ r → cpyJ Jk 49 76 r = J r := fun r hr => by rw [h2fr r (by omega), k2 r (by omega) (by omega), hJc r (by omega)]
        have hx1' : CX J1 76 (svs (J 355) gg pn) 365 (k + pn) := CX_nx hx0 c2 c3 v1 v2 (by omega)
        have hx49 : CX J1 49 (J 355) 365 k := ⟨zStk_49, RS_fr hS (fun r a b => hfr r (by omega)), RU_fr hU t2 (fun r a b => hfr r (by omega)), t2, t3, by decide, hk⟩
        -- the reference
        obtain ⟨J', Je, e, r1, r2, r3, r4, r5, r6, r7⟩ := hrt _ h348
        rw [z] at r1 r2
        obtain ⟨m1, m2, m3, m4⟩ := r2
        have e53 := h348 353 (by decide)
        have e59 := h348 359 (by decide)
        have j357 : jrow J' 355 t' 357 = e := by rw [jrow_ne (by decide), m4 357 (by decide) (by decide) (by decide), r4]
        have j353 : ∀ i, i ≠ 0 → i ≠ 18 → jrow J' 355 t' 353 i = J 353 i := fun i i0 i1 => by rw [jrow_ne (by decide), m3 i i1, r6 i i0 i1, e53]
        have j15 := j353 15 (by decide) (by decide)
        obtain ⟨J3, w1, w2, w3, w4⟩ := sp_237 (W := W) (J := jrow J' 355 t') za_357 (by decide) (by decide) (by rw [j15]; exact t.2.2.2.1.1) (by rw [j15]; exact t.2.2.2.1.2.1)
        rw [j357] at w2
        have hp0 : hpush J J3 (J 355) := hpush_eqS (hpush_cg w2 j15.symm (by rw [jrow_ne (by decide), m4 359 (by decide) (by decide) (by decide), r7 359 (by decide) (by decide), e59]) rfl rfl) r3
        have hall : ∀ r, r ≠ 353 → r ≠ 355 → r ≠ 357 → r ≠ 358 → r ≠ 359 → J3 r = cpyJ Jk 49 76 r := fun r h3 h5 h7 h8 h9 => by
          rw [w4 r h3 h9, jrow_ne h5, m4 r h3 h5 h8, r7 r h3 h7]
        have h3i : ∀ i, i ≠ 0 → i ≠ 15 → i ≠ 18 → J3 353 i = J 353 i := fun i i0 i1 i2 => by rw [w3 i i1, j353 i i0 i2]
        have key := chg_ok2 (J := J) (J1 := Jk) (J2 := cpyJ Jk 49 76) (J3 := J3) (k' := k + 42) (t := t') g t (by omega) (fun r a b c => by rw [k2 r a b, hJc r c]) (fun T' hT => k3 T' (by
            rw [hJc 355 (by decide)]
            exact hpush_cg hT (by rw [hJc 353 (by decide)]) (hJc 359 (by decide)) rfl rfl)) (fun r hr => h2fr r (by omega)) hRS2 (fun r hr => hall r (by omega) (by omega) (by omega) (by omega) (by omega)) hp0 (by rw [w4 355 (by decide) (by decide), jrow_same]) (h3i 2 (by decide) (by decide) (by decide)) (h3i 17 (by decide) (by decide) (by decide)) (by rw [hall 354 (by decide) (by decide) (by decide) (by decide) (by decide), h348 354 (by decide)]) (by rw [hall 360 (by decide) (by decide) (by decide) (by decide) (by decide), h348 360 (by decide)]) hst (okD_mono y2 (Int.le_refl _) (by omega))
        refine ⟨oI (frS (J 355) gg pn), cpyJ Jk 49 76, frS (J 355) gg pn, J3, fun Q => ?_, fun Q => ?_, key.1, key.2, Or.inl ⟨rfl, by rw [w3 0 (by decide), jrow_ne (by decide), m3 0 (by decide), r5]⟩⟩
        · rw [hcls, sg_110_89, if_pos (Int32.le_refl _), sp_72 hx49 (by decide) (by decide)]
          simp only [zk_l, zk_r, Option.toList_some, Option.toList_none, List.cons_append, List.nil_append, zrokB, zrokB0, zrokB1, zrokJ0, zrokJ1, and_true, true_and, and_self, if_true, if_false, b2_0, b2_1, b2_not, ite_self]
          rw [sg_110_111, sp_72 hx1' (by decide) (by decide), v3]
          simp only [zk_l, zk_r, Option.toList_some, Option.toList_none, List.cons_append, List.nil_append, zrokB, zrokB0, zrokB1, zrokJ0, zrokJ1, and_true, true_and, and_self, if_true, if_false, b2_0, b2_1, b2_not, ite_self]
          rw [sg_110_119, sp_46 (zStk_r16 zStk_76) v.1 (by omega) (by decide)]
          simp only [zk_l, zk_r, Option.toList_some, Option.toList_none, List.cons_append, List.nil_append, zrokB, zrokB0, zrokB1, zrokJ0, zrokJ1, and_true, true_and, and_self, if_true, if_false, b2_0, b2_1, b2_not, ite_self]
          rw [sg_110_133, sg_170_0, k1]
          simp only [zk_l, zk_r, Option.toList_some, Option.toList_none, List.cons_append, List.nil_append, zrokB, zrokB0, zrokB1, zrokJ0, zrokJ1, and_true, true_and, and_self, if_true, if_false, b2_0, b2_1, b2_not, ite_self]
          rw [sg_170_11, sp_62 zStk_49 zStk_76 (by decide)]
          simp only [zk_l, zk_r, Option.toList_some, Option.toList_none, List.cons_append, List.nil_append, zrokB, zrokB0, zrokB1, zrokJ0, zrokJ1, and_true, true_and, and_self, if_true, if_false, b2_0, b2_1, b2_not, ite_self]
          rw [sg_170_22]
          simp only [zk_l, zk_r, Option.toList_some, Option.toList_none, List.cons_append, List.nil_append, zrokB, zrokB0, zrokB1, zrokJ0, zrokJ1, and_true, true_and, and_self, if_true, if_false, b2_0, b2_1, b2_not, ite_self]
          rw [sg_110_137, jI_sub, show (cntS (J 355) 1 (J 355 6).toNat : Int) - cntS (svs (J 355) gg pn) 1 (J 355 6).toNat = frS (J 355) gg pn by omega]
        · rw [r1, decide_eq_true rfl]
          refine Eq.trans (sp_178t (W := W) 2) ?_
          simp only [zk_l, zk_r, Option.toList_some, Option.toList_none, List.cons_append, List.nil_append, zrokB, zrokB0, zrokB1, zrokJ0, zrokJ1, and_true, true_and, and_self, if_true, if_false, b2_0, b2_1, b2_not, ite_self]
          rw [sg_258_121, if_pos (by decide)]
          simp (disch := first | assumption | omega) only [m1, zk_l, zk_r, Option.toList_some, Option.toList_none, List.cons_append, List.nil_append, zrokB, zrokB0, zrokB1, zrokJ0, zrokJ1, and_true, true_and, and_self, if_true, if_false, b2_0, b2_1, b2_not, ite_self, Int.add_zero, jI_nat, jI_add, jI_sub, jI_mul, jI_neg, jI_lt, jI_le, jI_eq, jI_lt0, jI_0lt, jI_le0, jI_0le, jI_eq0, jI_in, jI_dv, i_mod, jI_cl, jm_n, jz_n, i_lit, i_c0, i_c1, Int.toNat_of_nonneg, Int.toNat_natCast, jrow_same, jrow_ne, jrow_jrow, sset_eq, sset_ne]
          refine (w1 _).trans ?_
          simp only [zk_l, zk_r, Option.toList_some, Option.toList_none, List.cons_append, List.nil_append, zrokB, zrokB0, zrokB1, zrokJ0, zrokJ1, and_true, true_and, and_self, if_true, if_false, b2_0, b2_1, b2_not, ite_self]
          rw [sg_258_154]
          have e18 : J3 353 18 = frS (J 355) gg pn := by rw [w3 18 (by decide), jrow_ne (by decide), m2]
          have : jm J3 353 18 = jI (frS (J 355) gg pn) := congrArg jI e18
          rw [this]
      · have h348 : ∀ r, 348 ≤ r → J1 r = J r := fun r hr => hfr r (by omega)
        obtain ⟨J', Je, e, r1, r2, r3, r4, r5, r6, r7⟩ := hrt _ h348
        have hkpe := kpe_back (J := J) (J1 := J1) (Jc := Je) (kp_76 hfr) r7 r6 r2 r3 (sset (J' 353) 0 2) (fun i hi => sset_ne hi)
        have h357 : J' 357 = e := by rw [r2.2.2.2 357 (by decide) (by decide) (by decide), r4]
        refine opqe g t ⟨oE 2, J1, 0, jrow (jrow J' 355 (scpy e (J' 355) 472)) 353 (sset (J' 353) 0 2), fun Q => ?_, fun Q => ?_, hkpe, mt_er 1 2 rfl rfl⟩
        · rw [hcls, sg_110_89, if_neg (by rw [jI_le (by omega) (by omega) (by omega) (by omega)]; omega)]
        · rw [r1, decide_eq_false z]
          refine Eq.trans (sp_178f (W := W) 2) ?_
          simp only [zk_l, zk_r, Option.toList_some, Option.toList_none, List.cons_append, List.nil_append, zrokB, zrokB0, zrokB1, zrokJ0, zrokJ1, and_true, true_and, and_self, if_true, if_false, b2_0, b2_1, b2_not, ite_self]
          rw [sg_258_121, if_neg (by decide), sp_196 za_357 za_355 (by decide) (by decide) (by decide) (by decide) (by decide), jrow_ne (show 357 ≠ 353 by decide), jrow_ne (show 355 ≠ 353 by decide), h357]
          simp only [zk_l, zk_r, Option.toList_some, Option.toList_none, List.cons_append, List.nil_append, zrokB, zrokB0, zrokB1, zrokJ0, zrokJ1, and_true, true_and, and_self, if_true, if_false, b2_0, b2_1, b2_not, ite_self]
          rw [sg_258_135]
          have : jrow (jrow J' 353 (sset (J' 353) 0 2)) 355 (scpy e (J' 355) 472) = jrow (jrow J' 355 (scpy e (J' 355) 472)) 353 (sset (J' 353) 0 2) := by
            funext r
            by_cases d : r = 355
            · rw [d, jrow_same, jrow_ne (by decide), jrow_same]
            · rw [jrow_ne d]
              by_cases d2 : r = 353
              · rw [d2, jrow_same, jrow_same]
              · rw [jrow_ne d2, jrow_ne d2, jrow_ne d]
          rw [this]
    · have ef : (decide (J 355 (352 + 4 * a + 3) = 0) && decide (J 355 0 ≤ J 355 (352 + 4 * a + 2))) = false := by
        rw [← Bool.not_eq_true, Bool.and_eq_true, decide_eq_true_eq, decide_eq_true_eq]
        exact w
      refine opq g t ⟨oE 2, J, 0, jrow J 353 (sset (J 353) 0 2), fun Q => ?_, fun Q => ?_, kp_thr, mt_er 1 2 rfl rfl⟩
      · rw [sg_110_0, sp_165v v.1 (by omega) (by omega)]
        simp only [zk_l, zk_r, Option.toList_some, Option.toList_none, List.cons_append, List.nil_append, zrokB, zrokB0, zrokB1, zrokJ0, zrokJ1, and_true, true_and, and_self, if_true, if_false, b2_0, b2_1, b2_not, ite_self]
        rw [sg_110_5, sp_45 (zStk_r16 zStk_49) v.1 (by omega) (by decide), hso]
        simp only [zk_l, zk_r, Option.toList_some, Option.toList_none, List.cons_append, List.nil_append, zrokB, zrokB0, zrokB1, zrokJ0, zrokJ1, and_true, true_and, and_self, if_true, if_false, b2_0, b2_1, b2_not, ite_self]
        rw [sg_110_16]
        by_cases c : J 355 (352 + 4 * a + 3) = 0
        · rw [if_pos (by rw [c]; rfl), sp_45 (zStp_r9 zStp_5) v.1 (by omega) (by decide), u3]
          simp (disch := first | assumption | omega) only [d1, zk_l, zk_r, Option.toList_some, Option.toList_none, List.cons_append, List.nil_append, zrokB, zrokB0, zrokB1, zrokJ0, zrokJ1, and_true, true_and, and_self, if_true, if_false, b2_0, b2_1, b2_not, ite_self, jI_cl, jm_n, jz_n, i_lit, i_c0, i_c1, Int.toNat_of_nonneg, Int.toNat_natCast, jrow_same, jrow_ne, jrow_jrow, sset_eq, sset_ne]
          rw [sg_110_37, if_neg (by rw [jI_le (by omega) (by omega) (by omega) (by omega)]; omega), sg_110_40]
        · rw [if_neg (by rw [jI_eq0 (by omega) (by omega)]; exact c), sg_110_40]
      · rw [href J rfl, ef]
        refine Eq.trans (sp_178f (W := W) 2) ?_
        simp only [sset_ss, zk_l, zk_r, Option.toList_some, Option.toList_none, List.cons_append, List.nil_append, zrokB, zrokB0, zrokB1, zrokJ0, zrokJ1, and_true, true_and, and_self, if_true, if_false, b2_0, b2_1, b2_not, ite_self, jI_cl, jm_n, jz_n, i_lit, i_c0, i_c1, Int.toNat_of_nonneg, Int.toNat_natCast, jrow_same, jrow_ne, jrow_jrow, sset_eq, sset_ne]
        rw [sg_258_66, if_neg (by decide)]
  · refine opq g t ⟨oE 0, J, 0, jrow J 353 (sset (J 353) 0 1), fun Q => ?_, fun Q => ?_, kp_thr, mt_er 0 0 rfl rfl⟩
    · rw [sg_110_0, sp_165n a1 a2 (by rw [hu6]; exact v) (by omega) (by omega)]
      simp only [zk_l, zk_r, Option.toList_some, Option.toList_none, List.cons_append, List.nil_append, zrokB, zrokB0, zrokB1, zrokJ0, zrokJ1, and_true, true_and, and_self, if_true, if_false, b2_0, b2_1, b2_not, ite_self]
    · rw [sg_258_0]
      simp (disch := first | assumption | omega) only [jI_cl, jm_n, jz_n, i_lit, i_c0, i_c1, Int.toNat_of_nonneg, Int.toNat_natCast, jrow_same, jrow_ne, jrow_jrow, sset_eq, sset_ne]
      rw [sp_218n a1 a2 (by rw [e355]; exact v) (by rw [e355]; exact b11) (by rw [e355]; exact b12)]
      simp only [zk_l, zk_r, Option.toList_some, Option.toList_none, List.cons_append, List.nil_append, zrokB, zrokB0, zrokB1, zrokJ0, zrokJ1, and_true, true_and, and_self, if_true, if_false, b2_0, b2_1, b2_not, ite_self]
      rw [sg_258_11, sp_178f]
      simp only [sset_ss, zk_l, zk_r, Option.toList_some, Option.toList_none, List.cons_append, List.nil_append, zrokB, zrokB0, zrokB1, zrokJ0, zrokJ1, and_true, true_and, and_self, if_true, if_false, b2_0, b2_1, b2_not, ite_self, jI_cl, jm_n, jz_n, i_lit, i_c0, i_c1, Int.toNat_of_nonneg, Int.toNat_natCast, jrow_same, jrow_ne, jrow_jrow, sset_eq, sset_ne]
      rw [sg_258_15, if_neg (by decide)]
end
