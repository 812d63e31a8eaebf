/-! ===== calls that change the stock ===== -/
theorem hpush_cg {T T' T0 T1 : zJ} {s : Int → Int} (h : hpush T T' s) (e1 : T0 353 15 = T 353 15) (e2 : T0 359 = T 359) (e3 : T1 353 15 = T' 353 15) (e4 : T1 359 = T' 359) : hpush T0 T1 s := by
  have h1 : ∀ e, hs T0 e = hs T e := fun e => by unfold hs; rw [e2]
  have h2 : ∀ e, hs T1 e = hs T' e := fun e => by unfold hs; rw [e4]
  unfold hpush at h ⊢
  simp only [h1, h2, e1, e3]
  exact h
/-- the conclusion for one memory -/
def OpR (W : zW) (k : Int) (hm : List Nat) (yC yR : Nat) (aC aR : List Value) (J : zJ) : Prop := ∃ o J1 v J2, (∀ Q : zO → zI → Prop, wz W yC 0 aC [] (jm J) Q = Q o (jm J1)) ∧ (∀ Q : zO → zI → Prop, wz W yR 0 aR [] (jm J1) Q = Q (oI v) (jm J2)) ∧ GC J2 J2 ∧ GT (k + 42) J2 ∧ mtc hm o (J2 353 0) v
section
variable {W : zW} {k : Int} {hm : List Nat} {yC yR : Nat} {aC aR : List Value} {J : zJ}
theorem opq (g : GC J J) (t : GT k J) (h : ∃ o J1 v J2, (∀ Q : zO → zI → Prop, wz W yC 0 aC [] (jm J) Q = Q o (jm J1)) ∧ (∀ Q : zO → zI → Prop, wz W yR 0 aR [] (jm J1) Q = Q (oI v) (jm J2)) ∧ kp J J2 ∧ mtc hm o (J2 353 0) v) : OpR W k hm yC yR aC aR J := by
  obtain ⟨o, J1, v, J2, h1, h2, h3, h4⟩ := h
  exact ⟨o, J1, v, J2, h1, h2, GC_kp g t.2.1 h3, GT_kp t h3 (by omega), h4⟩
/-- the same with a trial -/
theorem chg_ok2 {J1 J2 J3 : zJ} {k k' : Int} {t : Int → Int} (g : GC J J) (h : GT k J) (hk : k ≤ k')
    (q1 : ∀ r, r ≠ 130 → (r < 132 ∨ 348 ≤ r) → (r < 76 ∨ 103 ≤ r) → J1 r = J r) (q2 : ∀ T', hpush J T' (J 355) → (J1 130 2 = T' 353 15 ∧ 0 ≤ J1 130 1 ∧ J1 130 1 < 8 ∧ ∀ e, 0 ≤ e → e < T' 353 15 → RS J1 (hb (J1 130 1) e) (hs T' e)))
    (q3 : ∀ r, (r < 49 ∨ 103 ≤ r) → J2 r = J1 r) (q4 : RS J2 49 t)
    (q5 : ∀ r, r < 353 → J3 r = J2 r) (q6 : hpush J J3 (J 355)) (q7 : J3 355 = t) (q8 : J3 353 2 = J 353 2) (q9 : J3 353 17 = J 353 17) (q10 : J3 354 = J 354) (q11 : J3 360 = J 360) (q12 : same (J 355) t) (q13 : okD 365 k' t) : GC J3 J3 ∧ GT k' J3 := by
  let f : zJ → zJ := fun A r => if 76 ≤ r ∧ r < 103 then J r else A r
  have fn : ∀ (A : zJ) (r : Nat), (r < 76 ∨ 103 ≤ r) → f A r = A r := fun A r hr => if_neg (by omega)
  have fy : ∀ (A : zJ) (r : Nat), ¬ (r < 76 ∨ 103 ≤ r) → f A r = J r := fun A r hr => if_pos (by omega)
  have key := chg_ok (J := J) (J1 := f J1) (J2 := f J2) (J3 := f J3) g h hk (fun r a b => by
      by_cases c : r < 76 ∨ 103 ≤ r
      · rw [fn _ _ c]; exact q1 r a b c
      · exact fy _ _ c) (fun T' hT => by
      obtain ⟨p1, p2, p3, p4⟩ := q2 T' hT
      rw [fn J1 130 (by decide)]
      exact ⟨p1, p2, p3, fun e e0 e1 => RS_fr (p4 e e0 e1) (fun r a b => fn _ _ (by unfold hb at a; omega))⟩) (fun r hr => by
      by_cases c : r < 76 ∨ 103 ≤ r
      · rw [fn _ _ c, fn _ _ c]; exact q3 r (by omega)
      · rw [fy _ _ c, fy _ _ c]) (RS_fr q4 (fun r a b => fn _ _ (by omega))) (fun r hr => by
      by_cases c : r < 76 ∨ 103 ≤ r
      · rw [fn _ _ c, fn _ _ c]; exact q5 r hr
      · rw [fy _ _ c, fy _ _ c]) (hpush_cg q6 rfl rfl (by rw [fn _ _ (by decide)]) (fn _ _ (by decide))) (by rw [fn _ _ (by decide)]; exact q7) (by rw [fn _ _ (by decide)]; exact q8) (by rw [fn _ _ (by decide)]; exact q9) (by rw [fn _ _ (by decide)]; exact q10) (by rw [fn _ _ (by decide)]; exact q11) q12 q13
  have hkp : kp (f J3) J3 := ⟨fun r hr => (fn _ _ (by omega)).symm, by rw [fn _ _ (by decide)], by rw [fn _ _ (by decide)], by rw [fn _ _ (by decide)]⟩
  exact ⟨GC_kp key.1 key.2.2.1 hkp, GT_kp key.2 hkp (Int.le_refl _)⟩
/-- what the reference leaves after a change -/
def Rb (J2 J3 : zJ) (t : Int → Int) : Prop := hpush J2 J3 (J2 355) ∧ J3 355 = t ∧ J3 353 2 = J2 353 2 ∧ J3 353 17 = J2 353 17 ∧ J3 353 0 = 0 ∧ ∀ r, (r < 353 ∨ r = 354 ∨ r = 360) → J3 r = J2 r
theorem opc {t' : Int → Int} {v : Int} (g : GC J J) (t : GT k J) (hk : k ≤ 30000) (hs : same (J 355) t') (hd : okD 365 (k + 42) t')
    (hc : ∀ J1 : zJ, (∀ Q : zO → zI → Prop, wz W 15 0 [.ref 130, .ref 49, .float 0] [] (jm J) Q = Q oV (jm J1)) → CX J1 49 (J 355) 365 k → (∀ r, 348 ≤ r → J1 r = J r) → ∃ J2, (∀ Q : zO → zI → Prop, wz W yC 0 aC [] (jm J) Q = Q (oI v) (jm J2)) ∧ RS J2 49 t' ∧ ∀ r, (r < 49 ∨ 103 ≤ r) → J2 r = J1 r)
    (hr : ∀ J2 : zJ, (∀ r, 348 ≤ r → J2 r = J r) → ∃ J3, (∀ Q : zO → zI → Prop, wz W yR 0 aR [] (jm J2) Q = Q (oI v) (jm J3)) ∧ Rb J2 J3 t') : OpR W k hm yC yR aC aR J := by
  obtain ⟨J1, k1, k2, k3⟩ := keep_ok (W := W) g t
  have hx := GC_cx g t hk
  obtain ⟨J2, c1, c2, c3⟩ := hc J1 k1 ⟨hx.1, RS_fr hx.2.1 (fun r a b => k2 r (by omega) (by omega)), RU_fr hx.2.2.1 t.2.1 (fun r a b => k2 r (by omega) (by omega)), hx.2.2.2⟩ (fun r hr => k2 r (by omega) (by omega))
  have h348 : ∀ r, 348 ≤ r → J2 r = J r := fun r hr => by rw [c3 r (by omega), k2 r (by omega) (by omega)]
  obtain ⟨J3, r1, r2, r3, r4, r5, r6, r7⟩ := hr J2 h348
  have e355 := h348 355 (by decide)
  have e353 := h348 353 (by decide)
  have e359 := h348 359 (by decide)
  rw [e355] at r2
  have key := chg_ok2 (J := J) (J1 := J1) (J2 := J2) (J3 := J3) (k' := k + 42) g t (by omega) (fun r a b c => k2 r a b) k3 c3 c2 (fun r hr => r7 r (by omega)) (hpush_cg r2 (by rw [e353]) e359.symm rfl rfl) r3 (by rw [r4, e353]) (by rw [r5, e353]) (by rw [r7 354 (by decide), h348 354 (by decide)]) (by rw [r7 360 (by decide), h348 360 (by decide)]) hs hd
  exact ⟨oI v, J2, v, J3, c1, r1, key.1, key.2, Or.inl ⟨rfl, r6⟩⟩
/-- the reference, before it records -/
def th0 (J Ja : zJ) : Prop := Ja 355 = J 355 ∧ Ja 359 = J 359 ∧ Ja 353 0 = 0 ∧ (∀ i, i ≠ 0 → Ja 353 i = J 353 i) ∧ ∀ r, (r < 353 ∨ r = 354 ∨ r = 360) → Ja r = J r
theorem th0_1 (J : zJ) : th0 J (jrow J 353 (sset (J 353) 0 0)) := ⟨jrow_ne (by decide), jrow_ne (by decide), by rw [jrow_same, sset_eq rfl], fun i hi => by rw [jrow_same, sset_ne hi], fun r hr => jrow_ne (by omega)⟩
theorem th0_2 {J Ja : zJ} (h : th0 J Ja) {q : Nat} (f : Int → Int) (hq : q = 356 ∨ q = 357 ∨ q = 358 ∨ 361 ≤ q) : th0 J (jrow Ja q f) := by
  obtain ⟨h1, h2, h3, h4, h5⟩ := h
  exact ⟨by rw [jrow_ne (by omega)]; exact h1, by rw [jrow_ne (by omega)]; exact h2, by rw [jrow_ne (by omega)]; exact h3, fun i hi => by rw [jrow_ne (by omega)]; exact h4 i hi, fun r hr => by rw [jrow_ne (by omega)]; exact h5 r hr⟩
theorem rec55 {J2 Ja : zJ} (h : th0 J2 Ja) (h0 : 0 ≤ J2 353 15) (h8 : J2 353 15 ≤ 8) : ∃ J', (∀ Q : zO → zI → Prop, wz W 237 0 [.ref 353, .ref 355, .float 0] [] (jm Ja) Q = Q oV (jm J')) ∧ J' 355 = J2 355 ∧ (∀ q, q ≠ 353 → q ≠ 359 → J' q = Ja q) ∧ J' 353 0 = 0 ∧ (∀ t, Rb J2 (jrow J' 355 t) t) ∧ ∀ t q f, (q = 356 ∨ q = 357 ∨ q = 358 ∨ 361 ≤ q) → Rb J2 (jrow (jrow J' 355 t) q f) t := by
  obtain ⟨e1, e2, e3, e4, e5⟩ := h
  have e15 := e4 15 (by decide)
  obtain ⟨J', r1, r2, r3, r4⟩ := sp_237 (W := W) (J := Ja) za_355 (by decide) (by decide) (by rw [e15]; exact h0) (by rw [e15]; exact h8)
  have hb : ∀ t, Rb J2 (jrow J' 355 t) t := by
    intro t
    refine ⟨?_, jrow_same, ?_, ?_, ?_, fun r hr => ?_⟩
    · rw [e1] at r2
      exact hpush_cg r2 e15.symm e2.symm (by rw [jrow_ne (by decide)]) (jrow_ne (by decide))
    · rw [jrow_ne (by decide), r3 2 (by decide), e4 2 (by decide)]
    · rw [jrow_ne (by decide), r3 17 (by decide), e4 17 (by decide)]
    · rw [jrow_ne (by decide), r3 0 (by decide), e3]
    · rw [jrow_ne (by omega), r4 r (by omega) (by omega), e5 r hr]
  refine ⟨J', r1, by rw [r4 355 (by decide) (by decide), e1], r4, by rw [r3 0 (by decide), e3], hb, fun t q f hq => ?_⟩
  obtain ⟨b1, b2, b3, b4, b5, b6⟩ := hb t
  exact ⟨hpush_cg b1 rfl rfl (by rw [jrow_ne (show 353 ≠ q by omega)]) (jrow_ne (by omega)), by rw [jrow_ne (by omega)]; exact b2, by rw [jrow_ne (by omega)]; exact b3, by rw [jrow_ne (by omega)]; exact b4, by rw [jrow_ne (by omega)]; exact b5, fun r hr => by rw [jrow_ne (by omega)]; exact b6 r hr⟩
end
section
variable {W : zW} {k : Int}
theorem op_arrive (hk : k ≤ 30000) {a : Int} (a1 : -2147483648 ≤ a) (a2 : a < 2147483648) : Op W k [0, 2] 103 238 [.ref 0, .int (jI a)] [.ref 353, .int (jI a)] := by
  intro J g t
  obtain ⟨-, t2, t3, -⟩ := id t
  obtain ⟨a1', a2', a3', a4', a5', a6'⟩ := t3.1
  obtain ⟨b1, b2x, b3, b4, b5, b6, b7, b8, b9, b10, b11, b12⟩ := t2.1
  obtain ⟨-, hS, hU, -⟩ := id g
  obtain ⟨d1, d2, d3, hpl, hq, hc, ho⟩ := id hS
  have hcx := GC_cx g t hk
  have hu0 := hU.1
  by_cases v : 0 ≤ a ∧ a < J 355 5
  · by_cases w : J 355 6 < 40 ∧ J 355 8 < 8
    · obtain ⟨ok1, ok2⟩ := add_ok t2 t3 v.1 v.2 w.1 w.2
      refine opc g t hk (t' := fAdd (J 355) a) (v := J 355 6) ok1 (okD_mono ok2 (Int.le_refl _) (by omega)) (fun J1 k1 hx1 h348 => ?_) (fun J2 h348 => ?_)
      · obtain ⟨J2, r1, r2, r3⟩ := sp_63 (W := W) hx1 (g := a) w.1 w.2
        refine ⟨J2, fun Q => ?_, r2, fun r hr => r3 r (by omega)⟩
        rw [sg_103_0, sp_162v v.1 (by omega) (by omega)]
        simp only [zk_l, zk_r, Option.toList_some, Option.toList_none, List.cons_append, List.nil_append, zrokB, zrokB0, zrokB1, zrokJ0, zrokJ1, and_true, true_and, and_self, if_true, if_false, b2_0, b2_1, b2_not, ite_self]
        rw [sg_103_5]
        simp (disch := first | assumption | omega) only [d2, d3, jI_cl, jm_n, jz_n, i_lit, i_c0, i_c1, Int.toNat_of_nonneg, Int.toNat_natCast, jrow_same, jrow_ne, jrow_jrow, sset_eq, sset_ne]
        rw [if_neg (by rw [jI_le (by omega) (by omega) (by omega) (by omega)]; omega), if_pos (by rw [jI_lt (by omega) (by omega) (by omega) (by omega)]; omega), k1]
        simp only [zk_l, zk_r, Option.toList_some, Option.toList_none, List.cons_append, List.nil_append, zrokB, zrokB0, zrokB1, zrokJ0, zrokJ1, and_true, true_and, and_self, if_true, if_false, b2_0, b2_1, b2_not, ite_self]
        rw [sg_103_50, r1]
        simp only [zk_l, zk_r, Option.toList_some, Option.toList_none, List.cons_append, List.nil_append, zrokB, zrokB0, zrokB1, zrokJ0, zrokJ1, and_true, true_and, and_self, if_true, if_false, b2_0, b2_1, b2_not, ite_self]
        rw [sg_103_58]
      · have e55 := h348 355 (by decide)
        have e53 := h348 353 (by decide)
        obtain ⟨J', s1, s2, s3, s4, s5, -⟩ := rec55 (W := W) (th0_1 J2) (by rw [e53]; exact t.2.2.2.1.1) (by rw [e53]; exact t.2.2.2.1.2.1)
        have e9 : ∀ f, jrow J2 353 f 355 = J 355 := fun f => e355.trans e55
        rw [e55] at s2
        refine ⟨jrow J' 355 (fAdd (J 355) a), fun Q => ?_, s5 _⟩
        rw [sg_238_0]
        simp (disch := first | assumption | omega) only [jI_cl, jm_n, jz_n, i_lit, i_c0, i_c1, Int.toNat_of_nonneg, Int.toNat_natCast, jrow_same, jrow_ne, jrow_jrow, sset_eq, sset_ne]
        rw [sp_216v v.1 (by rw [e9]; exact v.2) (by rw [e9]; exact b10)]
        simp only [zk_l, zk_r, Option.toList_some, Option.toList_none, List.cons_append, List.nil_append, zrokB, zrokB0, zrokB1, zrokJ0, zrokJ1, and_true, true_and, and_self, if_true, if_false, b2_0, b2_1, b2_not, ite_self]
        rw [sg_238_11, sp_178t]
        simp only [zk_l, zk_r, Option.toList_some, Option.toList_none, List.cons_append, List.nil_append, zrokB, zrokB0, zrokB1, zrokJ0, zrokJ1, and_true, true_and, and_self, if_true, if_false, b2_0, b2_1, b2_not, ite_self]
        rw [sg_238_15]
        simp (disch := first | assumption | omega) only [e9, zk_l, zk_r, Option.toList_some, Option.toList_none, List.cons_append, List.nil_append, zrokB, zrokB0, zrokB1, zrokJ0, zrokJ1, and_true, true_and, and_self, if_true, if_false, b2_0, b2_1, b2_not, ite_self, Int.add_zero, jI_nat, jI_add, jI_sub, jI_mul, jI_neg, jI_lt, jI_le, jI_eq, jI_lt0, jI_0lt, jI_le0, jI_0le, jI_eq0, jI_in, jI_dv, i_mod, jI_cl, jm_n, jz_n, i_lit, i_c0, i_c1, Int.toNat_of_nonneg, Int.toNat_natCast, jrow_same, jrow_ne, jrow_jrow, sset_eq, sset_ne]
        rw [if_neg (by omega), if_neg (by omega), sg_238_48]
        refine Eq.trans (sp_178t (W := W) 2) ?_
        simp only [zk_l, zk_r, Option.toList_some, Option.toList_none, List.cons_append, List.nil_append, zrokB, zrokB0, zrokB1, zrokJ0, zrokJ1, and_true, true_and, and_self, if_true, if_false, b2_0, b2_1, b2_not, ite_self]
        rw [sg_238_52, if_pos (by decide), s1]
        simp only [zk_l, zk_r, Option.toList_some, Option.toList_none, List.cons_append, List.nil_append, zrokB, zrokB0, zrokB1, zrokJ0, zrokJ1, and_true, true_and, and_self, if_true, if_false, b2_0, b2_1, b2_not, ite_self]
        rw [sg_238_65, sp_197 za_355 (by rw [s2]; exact a3') (by rw [s2]; exact w.1) (by rw [s2]; exact a5') (by rw [s2]; exact w.2), s2]
        simp only [zk_l, zk_r, Option.toList_some, Option.toList_none, List.cons_append, List.nil_append, zrokB, zrokB0, zrokB1, zrokJ0, zrokJ1, and_true, true_and, and_self, if_true, if_false, b2_0, b2_1, b2_not, ite_self]
        rw [sg_238_73]
        have e6 : fAdd (J 355) a 6 = J 355 6 + 1 := by unfold fAdd; rw [sset_eq rfl]
        simp (disch := first | assumption | omega) only [e6, zk_l, zk_r, Option.toList_some, Option.toList_none, List.cons_append, List.nil_append, zrokB, zrokB0, zrokB1, zrokJ0, zrokJ1, and_true, true_and, and_self, if_true, if_false, b2_0, b2_1, b2_not, ite_self, Int.add_zero, jI_nat, jI_add, jI_sub, jI_mul, jI_neg, jI_lt, jI_le, jI_eq, jI_lt0, jI_0lt, jI_le0, jI_0le, jI_eq0, jI_in, jI_dv, i_mod, jI_cl, jm_n, jz_n, i_lit, i_c0, i_c1, Int.toNat_of_nonneg, Int.toNat_natCast, jrow_same, jrow_ne, jrow_jrow, sset_eq, sset_ne]
        rw [show J 355 6 + 1 - 1 = J 355 6 by omega]
    · refine opq g t ⟨oE 2, J, 0, jrow J 353 (sset (J 353) 0 2), fun Q => ?_, fun Q => ?_, kp_thr, mt_er 1 2 rfl rfl⟩
      · rw [sg_103_0, sp_162v v.1 (by omega) (by omega)]
        simp only [zk_l, zk_r, Option.toList_some, Option.toList_none, List.cons_append, List.nil_append, zrokB, zrokB0, zrokB1, zrokJ0, zrokJ1, and_true, true_and, and_self, if_true, if_false, b2_0, b2_1, b2_not, ite_self]
        rw [sg_103_5]
        simp (disch := first | assumption | omega) only [d2, d3, jI_cl, jm_n, jz_n, i_lit, i_c0, i_c1, Int.toNat_of_nonneg, Int.toNat_natCast, jrow_same, jrow_ne, jrow_jrow, sset_eq, sset_ne]
        by_cases c : J 355 6 < 40
        · rw [if_neg (by rw [jI_le (by omega) (by omega) (by omega) (by omega)]; omega), if_neg (by rw [jI_lt (by omega) (by omega) (by omega) (by omega)]; omega), sg_103_29]
        · rw [if_pos (by rw [jI_le (by omega) (by omega) (by omega) (by omega)]; omega), sg_103_29]
      · have hbad : wz W 238 47 [.ref 353, .int (jI a)] [.ref 353] (jm (jrow J 353 (sset (J 353) 0 0))) Q = Q (oI 0) (jm (jrow J 353 (sset (J 353) 0 2))) := by
          rw [sg_238_47, sg_238_48]
          refine Eq.trans (sp_178f (W := W) 2) ?_
          simp only [sset_ss, zk_l, zk_r, Option.toList_some, Option.toList_none, List.cons_append, List.nil_append, zrokB, zrokB0, zrokB1, zrokJ0, zrokJ1, and_true, true_and, and_self, if_true, if_false, b2_0, b2_1, b2_not, ite_self, jI_cl, jm_n, jz_n, i_lit, i_c0, i_c1, Int.toNat_of_nonneg, Int.toNat_natCast, jrow_same, jrow_ne, jrow_jrow, sset_eq, sset_ne]
          rw [sg_238_52, if_neg (by decide), sg_238_55]
        rw [sg_238_0]
        simp (disch := first | assumption | omega) only [jI_cl, jm_n, jz_n, i_lit, i_c0, i_c1, Int.toNat_of_nonneg, Int.toNat_natCast, jrow_same, jrow_ne, jrow_jrow, sset_eq, sset_ne]
        rw [sp_216v v.1 (by rw [e355]; exact v.2) (by rw [e355]; exact b10)]
        simp only [zk_l, zk_r, Option.toList_some, Option.toList_none, List.cons_append, List.nil_append, zrokB, zrokB0, zrokB1, zrokJ0, zrokJ1, and_true, true_and, and_self, if_true, if_false, b2_0, b2_1, b2_not, ite_self]
        rw [sg_238_11, sp_178t]
        simp only [zk_l, zk_r, Option.toList_some, Option.toList_none, List.cons_append, List.nil_append, zrokB, zrokB0, zrokB1, zrokJ0, zrokJ1, and_true, true_and, and_self, if_true, if_false, b2_0, b2_1, b2_not, ite_self]
        rw [sg_238_15]
        simp (disch := first | assumption | omega) only [e355, zk_l, zk_r, Option.toList_some, Option.toList_none, List.cons_append, List.nil_append, zrokB, zrokB0, zrokB1, zrokJ0, zrokJ1, and_true, true_and, and_self, if_true, if_false, b2_0, b2_1, b2_not, ite_self, Int.add_zero, jI_nat, jI_add, jI_sub, jI_mul, jI_neg, jI_lt, jI_le, jI_eq, jI_lt0, jI_0lt, jI_le0, jI_0le, jI_eq0, jI_in, jI_dv, i_mod, jI_cl, jm_n, jz_n, i_lit, i_c0, i_c1, Int.toNat_of_nonneg, Int.toNat_natCast, jrow_same, jrow_ne, jrow_jrow, sset_eq, sset_ne]
        by_cases c : J 355 6 < 40
        · rw [if_neg (by omega), if_pos (by omega), hbad]
        · rw [if_pos (by omega), hbad]
  · refine opq g t ⟨oE 0, J, 0, jrow J 353 (sset (J 353) 0 1), fun Q => ?_, fun Q => ?_, kp_thr, mt_er 0 0 rfl rfl⟩
    · rw [sg_103_0, sp_162n a1 a2 (by rw [hu0]; exact v) (by omega) (by omega)]
      simp only [zk_l, zk_r, Option.toList_some, Option.toList_none, List.cons_append, List.nil_append, zrokB, zrokB0, zrokB1, zrokJ0, zrokJ1, and_true, true_and, and_self, if_true, if_false, b2_0, b2_1, b2_not, ite_self]
    · rw [sg_238_0]
      simp (disch := first | assumption | omega) only [jI_cl, jm_n, jz_n, i_lit, i_c0, i_c1, Int.toNat_of_nonneg, Int.toNat_natCast, jrow_same, jrow_ne, jrow_jrow, sset_eq, sset_ne]
      rw [sp_216n a1 a2 (by rw [e355]; exact v) (by rw [e355]; exact b9) (by rw [e355]; exact b10)]
      simp only [zk_l, zk_r, Option.toList_some, Option.toList_none, List.cons_append, List.nil_append, zrokB, zrokB0, zrokB1, zrokJ0, zrokJ1, and_true, true_and, and_self, if_true, if_false, b2_0, b2_1, b2_not, ite_self]
      rw [sg_238_11, sp_178f]
      simp only [sset_ss, zk_l, zk_r, Option.toList_some, Option.toList_none, List.cons_append, List.nil_append, zrokB, zrokB0, zrokB1, zrokJ0, zrokJ1, and_true, true_and, and_self, if_true, if_false, b2_0, b2_1, b2_not, ite_self, jI_cl, jm_n, jz_n, i_lit, i_c0, i_c1, Int.toNat_of_nonneg, Int.toNat_natCast, jrow_same, jrow_ne, jrow_jrow, sset_eq, sset_ne]
      rw [sg_238_15, if_neg (by decide), sg_238_55]
/-- leaving the quay, in the state itself -/
theorem sp_239o {Q : zO → zI → Prop} {s : Int → Int} {J : zJ} (e : J 355 = s) {D : Int} (hD : okD D k s) {p : Int} (p0 : 0 ≤ p) (p1 : p < s 6) (hp : s (72 + 7 * p + 2) = 0) : wz W 239 0 [.ref 353, .int (jI p), .float 0] [] (jm J) Q = Q oV (jm (jrow J 355 (fLv s p))) := by
  obtain ⟨⟨a1, a2, a3, a4, a5, a6⟩, hT, hV, hP, hW, hL, hQ, hN⟩ := hD
  rw [sp_239 (by omega) (by omega) (by rw [e]; exact a5) (by rw [e]; exact a6) (fun i i0 i1 => by
    rw [e] at i1 ⊢
    obtain ⟨x1, x2, -⟩ := hQ.1 i i0 i1
    omega) (by rw [e]; exact okQ_at hQ p0 p1 hp), e]
theorem op_ship (hk : k ≤ 30000) {p : Int} (p1 : -2147483648 ≤ p) (p2 : p < 2147483648) : Op W k [0, 2] 107 251 [.ref 0, .int (jI p)] [.ref 353, .int (jI p)] := by
  intro J g t
  obtain ⟨-, t2, t3, -⟩ := id t
  obtain ⟨a1', a2', a3', a4', a5', a6'⟩ := t3.1
  obtain ⟨b1, b2x, b3, b4, b5, b6, b7, b8, b9, b10, b11, b12⟩ := t2.1
  obtain ⟨-, hS, hU, -⟩ := id g
  obtain ⟨d1, d2, d3, hpl, hq, hc, ho⟩ := id hS
  have hcx := GC_cx g t hk
  by_cases v : 0 ≤ p ∧ p < J 355 6
  · obtain ⟨-, e2, -⟩ := RS_p hS v.1 v.2
    obtain ⟨q1, q2, q3, q4, q5, q6, -⟩ := t3.2.2.2.1 p v.1 v.2
    have href : ∀ (J2 : zJ), J2 355 = J 355 → ∀ Q : zO → zI → Prop, wz W 251 0 [.ref 353, .int (jI p)] [] (jm J2) Q = wz W 178 0 [.ref 353, .int (b2 (decide (J 355 (72 + 7 * p + 2) = 0) && !(spo (J 355) p))), .int (jI 2)] [] (jm (jrow J2 353 (sset (J2 353) 0 0))) (zk Q (fun v I1 => wz W 251 48 [.ref 353, .int (jI p)] (v.toList ++ []) I1 Q)) := by
      intro J2 e55 Q
      have e9 : ∀ f, jrow J2 353 f 355 = J 355 := fun f => e355.trans e55
      rw [sg_251_0]
      simp (disch := first | assumption | omega) only [jI_cl, jm_n, jz_n, i_lit, i_c0, i_c1, Int.toNat_of_nonneg, Int.toNat_natCast, jrow_same, jrow_ne, jrow_jrow, sset_eq, sset_ne]
      rw [sp_217v v.1 (by rw [e9]; exact v.2) (by rw [e9]; exact a4')]
      simp only [zk_l, zk_r, Option.toList_some, Option.toList_none, List.cons_append, List.nil_append, zrokB, zrokB0, zrokB1, zrokJ0, zrokJ1, and_true, true_and, and_self, if_true, if_false, b2_0, b2_1, b2_not, ite_self]
      rw [sg_251_11, sp_178t]
      simp only [zk_l, zk_r, Option.toList_some, Option.toList_none, List.cons_append, List.nil_append, zrokB, zrokB0, zrokB1, zrokJ0, zrokJ1, and_true, true_and, and_self, if_true, if_false, b2_0, b2_1, b2_not, ite_self]
      rw [sg_251_15, if_pos (by decide), sp_221 (by omega) v.1 (by omega), e9]
      simp only [zk_l, zk_r, Option.toList_some, Option.toList_none, List.cons_append, List.nil_append, zrokB, zrokB0, zrokB1, zrokJ0, zrokJ1, and_true, true_and, and_self, if_true, if_false, b2_0, b2_1, b2_not, ite_self]
      rw [sg_251_25]
      by_cases c : J 355 (72 + 7 * p + 2) = 0
      · rw [if_pos (by rw [c]; rfl), sp_236 (D := 365) (k := k) za_355 (by rw [e9]; exact t2) (by rw [e9]; exact t3) (by decide) v.1 (by rw [e9]; exact v.2), e9]
        simp only [zk_l, zk_r, Option.toList_some, Option.toList_none, List.cons_append, List.nil_append, zrokB, zrokB0, zrokB1, zrokJ0, zrokJ1, and_true, true_and, and_self, if_true, if_false, b2_0, b2_1, b2_not, ite_self]
        rw [sg_251_36, decide_eq_true c]
        cases spo (J 355) p
        · rw [if_pos (by decide), sg_251_44]; rfl
        · rw [if_neg (by decide), sg_251_43, sg_251_44]; rfl
      · rw [if_neg (by rw [jI_eq0 (by omega) (by omega)]; exact c), sg_251_43, sg_251_44, decide_eq_false c]; rfl
    by_cases w : J 355 (72 + 7 * p + 2) = 0 ∧ spo (J 355) p = false
    · obtain ⟨ok1, ok2⟩ := shipW_ok t2 t3 v.1 v.2 w.1 (how := 2) (Or.inl rfl)
      have ok3 := okK_same t2 ok1
      refine opc g t hk (t' := fShipW (J 355) p 2) (v := fShipW (J 355) p 2 9) ok1 (okD_mono ok2 (Int.le_refl _) (by omega)) (fun J1 k1 hx1 h348 => ?_) (fun J2 h348 => ?_)
      · obtain ⟨J2, r1, r2, r3⟩ := sp_69w (W := W) hx1 v.1 v.2 w.1 (how := 2) (Or.inl rfl)
        have hx2 : CX J2 49 (fShipW (J 355) p 2) 365 k := ⟨zStk_49, r2, RU_same (RU_fr hx1.2.2.1 t2 (fun r a b => r3 r (by omega))) t2 ok1, ok3, ok2, by decide, hk⟩
        refine ⟨J2, fun Q => ?_, r2, fun r hr => r3 r (by omega)⟩
        rw [sg_107_0, sp_163v v.1 (by omega) (by omega)]
        simp only [zk_l, zk_r, Option.toList_some, Option.toList_none, List.cons_append, List.nil_append, zrokB, zrokB0, zrokB1, zrokJ0, zrokJ1, and_true, true_and, and_self, if_true, if_false, b2_0, b2_1, b2_not, ite_self]
        rw [sg_107_5, sp_45 (zStk_r4 zStk_49) v.1 (by omega) (by decide), e2, w.1]
        simp only [zk_l, zk_r, Option.toList_some, Option.toList_none, List.cons_append, List.nil_append, zrokB, zrokB0, zrokB1, zrokJ0, zrokJ1, and_true, true_and, and_self, if_true, if_false, b2_0, b2_1, b2_not, ite_self]
        rw [sg_107_16, if_pos (by decide), sp_73 hcx v.1 v.2, w.2]
        simp only [zk_l, zk_r, Option.toList_some, Option.toList_none, List.cons_append, List.nil_append, zrokB, zrokB0, zrokB1, zrokJ0, zrokJ1, and_true, true_and, and_self, if_true, if_false, b2_0, b2_1, b2_not, ite_self]
        rw [sg_107_27, if_pos (by decide), k1]
        simp only [zk_l, zk_r, Option.toList_some, Option.toList_none, List.cons_append, List.nil_append, zrokB, zrokB0, zrokB1, zrokJ0, zrokJ1, and_true, true_and, and_self, if_true, if_false, b2_0, b2_1, b2_not, ite_self]
        rw [sg_107_51, r1]
        simp only [zk_l, zk_r, Option.toList_some, Option.toList_none, List.cons_append, List.nil_append, zrokB, zrokB0, zrokB1, zrokJ0, zrokJ1, and_true, true_and, and_self, if_true, if_false, b2_0, b2_1, b2_not, ite_self]
        rw [sg_107_60, sp_72 hx2 (by decide) (by decide), ← ok2.2.2.2.2.2.2.2.1]
        simp only [zk_l, zk_r, Option.toList_some, Option.toList_none, List.cons_append, List.nil_append, zrokB, zrokB0, zrokB1, zrokJ0, zrokJ1, and_true, true_and, and_self, if_true, if_false, b2_0, b2_1, b2_not, ite_self]
        rw [sg_107_68]
      · have e55 := h348 355 (by decide)
        have e53 := h348 353 (by decide)
        obtain ⟨J', s1, s2, s3, s4, s5, -⟩ := rec55 (W := W) (th0_1 J2) (by rw [e53]; exact t.2.2.2.1.1) (by rw [e53]; exact t.2.2.2.1.2.1)
        rw [e55] at s2
        refine ⟨jrow J' 355 (fShipW (J 355) p 2), fun Q => ?_, s5 _⟩
        rw [href J2 e55, decide_eq_true w.1, w.2]
        refine Eq.trans (sp_178t (W := W) 2) ?_
        simp only [zk_l, zk_r, Option.toList_some, Option.toList_none, List.cons_append, List.nil_append, zrokB, zrokB0, zrokB1, zrokJ0, zrokJ1, and_true, true_and, and_self, if_true, if_false, b2_0, b2_1, b2_not, ite_self]
        rw [sg_251_48, if_pos (by decide), s1]
        simp only [zk_l, zk_r, Option.toList_some, Option.toList_none, List.cons_append, List.nil_append, zrokB, zrokB0, zrokB1, zrokJ0, zrokJ1, and_true, true_and, and_self, if_true, if_false, b2_0, b2_1, b2_not, ite_self]
        rw [sg_251_61, sp_239o s2 t3 v.1 v.2 w.1]
        simp only [zk_l, zk_r, Option.toList_some, Option.toList_none, List.cons_append, List.nil_append, zrokB, zrokB0, zrokB1, zrokJ0, zrokJ1, and_true, true_and, and_self, if_true, if_false, b2_0, b2_1, b2_not, ite_self]
        rw [sg_251_66, sp_250 v.1 (by omega) (by decide) (by decide), jrow_same, jrow_jrow]
        simp only [zk_l, zk_r, Option.toList_some, Option.toList_none, List.cons_append, List.nil_append, zrokB, zrokB0, zrokB1, zrokJ0, zrokJ1, and_true, true_and, and_self, if_true, if_false, b2_0, b2_1, b2_not, ite_self]
        rw [sg_251_72]
        simp (disch := first | assumption | omega) only [zk_l, zk_r, Option.toList_some, Option.toList_none, List.cons_append, List.nil_append, zrokB, zrokB0, zrokB1, zrokJ0, zrokJ1, and_true, true_and, and_self, if_true, if_false, b2_0, b2_1, b2_not, ite_self, Int.add_zero, jI_nat, jI_add, jI_sub, jI_mul, jI_neg, jI_lt, jI_le, jI_eq, jI_lt0, jI_0lt, jI_le0, jI_0le, jI_eq0, jI_in, jI_dv, i_mod, jI_cl, jm_n, jz_n, i_lit, i_c0, i_c1, Int.toNat_of_nonneg, Int.toNat_natCast, jrow_same, jrow_ne, jrow_jrow, sset_eq, sset_ne]
        rfl
    · have ef : (decide (J 355 (72 + 7 * p + 2) = 0) && !(spo (J 355) p)) = false := by
        rw [← Bool.not_eq_true, Bool.and_eq_true, decide_eq_true_eq, Bool.not_eq_true']
        exact w
      refine opq g t ⟨oE 2, J, 0, jrow J 353 (sset (J 353) 0 2), fun Q => ?_, fun Q => ?_, kp_thr, mt_er 1 2 rfl rfl⟩
      · rw [sg_107_0, sp_163v v.1 (by omega) (by omega)]
        simp only [zk_l, zk_r, Option.toList_some, Option.toList_none, List.cons_append, List.nil_append, zrokB, zrokB0, zrokB1, zrokJ0, zrokJ1, and_true, true_and, and_self, if_true, if_false, b2_0, b2_1, b2_not, ite_self]
        rw [sg_107_5, sp_45 (zStk_r4 zStk_49) v.1 (by omega) (by decide), e2]
        simp only [zk_l, zk_r, Option.toList_some, Option.toList_none, List.cons_append, List.nil_append, zrokB, zrokB0, zrokB1, zrokJ0, zrokJ1, and_true, true_and, and_self, if_true, if_false, b2_0, b2_1, b2_not, ite_self]
        rw [sg_107_16]
        by_cases c : J 355 (72 + 7 * p + 2) = 0
        · rw [if_pos (by rw [c]; rfl), sp_73 hcx v.1 v.2]
          simp only [zk_l, zk_r, Option.toList_some, Option.toList_none, List.cons_append, List.nil_append, zrokB, zrokB0, zrokB1, zrokJ0, zrokJ1, and_true, true_and, and_self, if_true, if_false, b2_0, b2_1, b2_not, ite_self]
          rw [sg_107_27]
          cases hs : spo (J 355) p
          · exact absurd ⟨c, hs⟩ w
          · rw [if_neg (by decide), sg_107_30]
        · rw [if_neg (by rw [jI_eq0 (by omega) (by omega)]; exact c), sg_107_30]
      · rw [href J rfl, ef]
        refine Eq.trans (sp_178f (W := W) 2) ?_
        simp only [sset_ss, zk_l, zk_r, Option.toList_some, Option.toList_none, List.cons_append, List.nil_append, zrokB, zrokB0, zrokB1, zrokJ0, zrokJ1, and_true, true_and, and_self, if_true, if_false, b2_0, b2_1, b2_not, ite_self, jI_cl, jm_n, jz_n, i_lit, i_c0, i_c1, Int.toNat_of_nonneg, Int.toNat_natCast, jrow_same, jrow_ne, jrow_jrow, sset_eq, sset_ne]
        rw [sg_251_48, if_neg (by decide), sg_251_51]
  · refine opq g t ⟨oE 0, J, 0, jrow J 353 (sset (J 353) 0 1), fun Q => ?_, fun Q => ?_, kp_thr, mt_er 0 0 rfl rfl⟩
    · rw [sg_107_0, sp_163n p1 p2 (by rw [d2]; exact v) (by omega) (by omega)]
      simp only [zk_l, zk_r, Option.toList_some, Option.toList_none, List.cons_append, List.nil_append, zrokB, zrokB0, zrokB1, zrokJ0, zrokJ1, and_true, true_and, and_self, if_true, if_false, b2_0, b2_1, b2_not, ite_self]
    · rw [sg_251_0]
      simp (disch := first | assumption | omega) only [jI_cl, jm_n, jz_n, i_lit, i_c0, i_c1, Int.toNat_of_nonneg, Int.toNat_natCast, jrow_same, jrow_ne, jrow_jrow, sset_eq, sset_ne]
      rw [sp_217n p1 p2 (by rw [e355]; exact v) (by rw [e355]; exact a3') (by rw [e355]; exact a4')]
      simp only [zk_l, zk_r, Option.toList_some, Option.toList_none, List.cons_append, List.nil_append, zrokB, zrokB0, zrokB1, zrokJ0, zrokJ1, and_true, true_and, and_self, if_true, if_false, b2_0, b2_1, b2_not, ite_self]
      rw [sg_251_11, sp_178f]
      simp only [sset_ss, zk_l, zk_r, Option.toList_some, Option.toList_none, List.cons_append, List.nil_append, zrokB, zrokB0, zrokB1, zrokJ0, zrokJ1, and_true, true_and, and_self, if_true, if_false, b2_0, b2_1, b2_not, ite_self, jI_cl, jm_n, jz_n, i_lit, i_c0, i_c1, Int.toNat_of_nonneg, Int.toNat_natCast, jrow_same, jrow_ne, jrow_jrow, sset_eq, sset_ne]
      rw [sg_251_15, if_neg (by decide), sg_251_51]
theorem op_discard (hk : k ≤ 30000) {p : Int} (p1 : -2147483648 ≤ p) (p2 : p < 2147483648) : Op W k [0, 2] 108 252 [.ref 0, .int (jI p)] [.ref 353, .int (jI p)] := by
  intro J g t
  obtain ⟨-, t2, t3, -⟩ := id t
  obtain ⟨a1', a2', a3', a4', a5', a6'⟩ := t3.1
  obtain ⟨b1, b2x, b3, b4, b5, b6, b7, b8, b9, b10, b11, b12⟩ := t2.1
  obtain ⟨-, hS, hU, -⟩ := id g
  obtain ⟨d1, d2, d3, hpl, hq, hc, ho⟩ := id hS
  have hcx := GC_cx g t hk
  by_cases v : 0 ≤ p ∧ p < J 355 6
  · obtain ⟨-, e2, -⟩ := RS_p hS v.1 v.2
    obtain ⟨q1, q2, q3, q4, q5, q6, -⟩ := t3.2.2.2.1 p v.1 v.2
    have href : ∀ (J2 : zJ), J2 355 = J 355 → ∀ Q : zO → zI → Prop, wz W 252 0 [.ref 353, .int (jI p)] [] (jm J2) Q = wz W 178 0 [.ref 353, .int (b2 (decide (J 355 (72 + 7 * p + 2) = 0))), .int (jI 2)] [] (jm (jrow J2 353 (sset (J2 353) 0 0))) (zk Q (fun v I1 => wz W 252 37 [.ref 353, .int (jI p)] (v.toList ++ []) I1 Q)) := by
      intro J2 e55 Q
      have e9 : ∀ f, jrow J2 353 f 355 = J 355 := fun f => e355.trans e55
      rw [sg_252_0]
      simp (disch := first | assumption | omega) only [jI_cl, jm_n, jz_n, i_lit, i_c0, i_c1, Int.toNat_of_nonneg, Int.toNat_natCast, jrow_same, jrow_ne, jrow_jrow, sset_eq, sset_ne]
      rw [sp_217v v.1 (by rw [e9]; exact v.2) (by rw [e9]; exact a4')]
      simp only [zk_l, zk_r, Option.toList_some, Option.toList_none, List.cons_append, List.nil_append, zrokB, zrokB0, zrokB1, zrokJ0, zrokJ1, and_true, true_and, and_self, if_true, if_false, b2_0, b2_1, b2_not, ite_self]
      rw [sg_252_11, sp_178t]
      simp only [zk_l, zk_r, Option.toList_some, Option.toList_none, List.cons_append, List.nil_append, zrokB, zrokB0, zrokB1, zrokJ0, zrokJ1, and_true, true_and, and_self, if_true, if_false, b2_0, b2_1, b2_not, ite_self]
      rw [sg_252_15, if_pos (by decide), sp_221 (by omega) v.1 (by omega), e9]
      simp only [zk_l, zk_r, Option.toList_some, Option.toList_none, List.cons_append, List.nil_append, zrokB, zrokB0, zrokB1, zrokJ0, zrokJ1, and_true, true_and, and_self, if_true, if_false, b2_0, b2_1, b2_not, ite_self]
      rw [sg_252_25]
      by_cases c : J 355 (72 + 7 * p + 2) = 0
      · rw [if_pos (by rw [c]; rfl), sg_252_33, decide_eq_true c]; rfl
      · rw [if_neg (by rw [jI_eq0 (by omega) (by omega)]; exact c), sg_252_33, decide_eq_false c]; rfl
    by_cases w : J 355 (72 + 7 * p + 2) = 0
    · obtain ⟨ok1, ok2⟩ := shipW_ok t2 t3 v.1 v.2 w (how := 3) (Or.inr rfl)
      have ok3 := okK_same t2 ok1
      refine opc g t hk (t' := fShipW (J 355) p 3) (v := fShipW (J 355) p 3 10) ok1 (okD_mono ok2 (Int.le_refl _) (by omega)) (fun J1 k1 hx1 h348 => ?_) (fun J2 h348 => ?_)
      · obtain ⟨J2, r1, r2, r3⟩ := sp_69w (W := W) hx1 v.1 v.2 w (how := 3) (Or.inr rfl)
        have hx2 : CX J2 49 (fShipW (J 355) p 3) 365 k := ⟨zStk_49, r2, RU_same (RU_fr hx1.2.2.1 t2 (fun r a b => r3 r (by omega))) t2 ok1, ok3, ok2, by decide, hk⟩
        refine ⟨J2, fun Q => ?_, r2, fun r hr => r3 r (by omega)⟩
        rw [sg_108_0, sp_163v v.1 (by omega) (by omega)]
        simp only [zk_l, zk_r, Option.toList_some, Option.toList_none, List.cons_append, List.nil_append, zrokB, zrokB0, zrokB1, zrokJ0, zrokJ1, and_true, true_and, and_self, if_true, if_false, b2_0, b2_1, b2_not, ite_self]
        rw [sg_108_5, sp_45 (zStk_r4 zStk_49) v.1 (by omega) (by decide), e2, w]
        simp only [zk_l, zk_r, Option.toList_some, Option.toList_none, List.cons_append, List.nil_append, zrokB, zrokB0, zrokB1, zrokJ0, zrokJ1, and_true, true_and, and_self, if_true, if_false, b2_0, b2_1, b2_not, ite_self]
        rw [sg_108_16, if_pos (by decide), k1]
        simp only [zk_l, zk_r, Option.toList_some, Option.toList_none, List.cons_append, List.nil_append, zrokB, zrokB0, zrokB1, zrokJ0, zrokJ1, and_true, true_and, and_self, if_true, if_false, b2_0, b2_1, b2_not, ite_self]
        rw [sg_108_40, r1]
        simp only [zk_l, zk_r, Option.toList_some, Option.toList_none, List.cons_append, List.nil_append, zrokB, zrokB0, zrokB1, zrokJ0, zrokJ1, and_true, true_and, and_self, if_true, if_false, b2_0, b2_1, b2_not, ite_self]
        rw [sg_108_49, sp_72 hx2 (by decide) (by decide), ← ok2.2.2.2.2.2.2.2.2]
        simp only [zk_l, zk_r, Option.toList_some, Option.toList_none, List.cons_append, List.nil_append, zrokB, zrokB0, zrokB1, zrokJ0, zrokJ1, and_true, true_and, and_self, if_true, if_false, b2_0, b2_1, b2_not, ite_self]
        rw [sg_108_57]
      · have e55 := h348 355 (by decide)
        have e53 := h348 353 (by decide)
        obtain ⟨J', s1, s2, s3, s4, s5, -⟩ := rec55 (W := W) (th0_1 J2) (by rw [e53]; exact t.2.2.2.1.1) (by rw [e53]; exact t.2.2.2.1.2.1)
        rw [e55] at s2
        refine ⟨jrow J' 355 (fShipW (J 355) p 3), fun Q => ?_, s5 _⟩
        rw [href J2 e55, decide_eq_true w]
        refine Eq.trans (sp_178t (W := W) 2) ?_
        simp only [zk_l, zk_r, Option.toList_some, Option.toList_none, List.cons_append, List.nil_append, zrokB, zrokB0, zrokB1, zrokJ0, zrokJ1, and_true, true_and, and_self, if_true, if_false, b2_0, b2_1, b2_not, ite_self]
        rw [sg_252_37, if_pos (by decide), s1]
        simp only [zk_l, zk_r, Option.toList_some, Option.toList_none, List.cons_append, List.nil_append, zrokB, zrokB0, zrokB1, zrokJ0, zrokJ1, and_true, true_and, and_self, if_true, if_false, b2_0, b2_1, b2_not, ite_self]
        rw [sg_252_50, sp_239o s2 t3 v.1 v.2 w]
        simp only [zk_l, zk_r, Option.toList_some, Option.toList_none, List.cons_append, List.nil_append, zrokB, zrokB0, zrokB1, zrokJ0, zrokJ1, and_true, true_and, and_self, if_true, if_false, b2_0, b2_1, b2_not, ite_self]
        rw [sg_252_55, sp_250 v.1 (by omega) (by decide) (by decide), jrow_same, jrow_jrow]
        simp only [zk_l, zk_r, Option.toList_some, Option.toList_none, List.cons_append, List.nil_append, zrokB, zrokB0, zrokB1, zrokJ0, zrokJ1, and_true, true_and, and_self, if_true, if_false, b2_0, b2_1, b2_not, ite_self]
        rw [sg_252_61]
        simp (disch := first | assumption | omega) only [zk_l, zk_r, Option.toList_some, Option.toList_none, List.cons_append, List.nil_append, zrokB, zrokB0, zrokB1, zrokJ0, zrokJ1, and_true, true_and, and_self, if_true, if_false, b2_0, b2_1, b2_not, ite_self, Int.add_zero, jI_nat, jI_add, jI_sub, jI_mul, jI_neg, jI_lt, jI_le, jI_eq, jI_lt0, jI_0lt, jI_le0, jI_0le, jI_eq0, jI_in, jI_dv, i_mod, jI_cl, jm_n, jz_n, i_lit, i_c0, i_c1, Int.toNat_of_nonneg, Int.toNat_natCast, jrow_same, jrow_ne, jrow_jrow, sset_eq, sset_ne]
        rfl
    · refine opq g t ⟨oE 2, J, 0, jrow J 353 (sset (J 353) 0 2), fun Q => ?_, fun Q => ?_, kp_thr, mt_er 1 2 rfl rfl⟩
      · rw [sg_108_0, sp_163v v.1 (by omega) (by omega)]
        simp only [zk_l, zk_r, Option.toList_some, Option.toList_none, List.cons_append, List.nil_append, zrokB, zrokB0, zrokB1, zrokJ0, zrokJ1, and_true, true_and, and_self, if_true, if_false, b2_0, b2_1, b2_not, ite_self]
        rw [sg_108_5, sp_45 (zStk_r4 zStk_49) v.1 (by omega) (by decide), e2]
        simp only [zk_l, zk_r, Option.toList_some, Option.toList_none, List.cons_append, List.nil_append, zrokB, zrokB0, zrokB1, zrokJ0, zrokJ1, and_true, true_and, and_self, if_true, if_false, b2_0, b2_1, b2_not, ite_self]
        rw [sg_108_16, if_neg (by rw [jI_eq0 (by omega) (by omega)]; exact w)]
      · rw [href J rfl, decide_eq_false w]
        refine Eq.trans (sp_178f (W := W) 2) ?_
        simp only [sset_ss, zk_l, zk_r, Option.toList_some, Option.toList_none, List.cons_append, List.nil_append, zrokB, zrokB0, zrokB1, zrokJ0, zrokJ1, and_true, true_and, and_self, if_true, if_false, b2_0, b2_1, b2_not, ite_self, jI_cl, jm_n, jz_n, i_lit, i_c0, i_c1, Int.toNat_of_nonneg, Int.toNat_natCast, jrow_same, jrow_ne, jrow_jrow, sset_eq, sset_ne]
        rw [sg_252_37, if_neg (by decide), sg_252_40]
  · refine opq g t ⟨oE 0, J, 0, jrow J 353 (sset (J 353) 0 1), fun Q => ?_, fun Q => ?_, kp_thr, mt_er 0 0 rfl rfl⟩
    · rw [sg_108_0, sp_163n p1 p2 (by rw [d2]; exact v) (by omega) (by omega)]
      simp only [zk_l, zk_r, Option.toList_some, Option.toList_none, List.cons_append, List.nil_append, zrokB, zrokB0, zrokB1, zrokJ0, zrokJ1, and_true, true_and, and_self, if_true, if_false, b2_0, b2_1, b2_not, ite_self]
    · rw [sg_252_0]
      simp (disch := first | assumption | omega) only [jI_cl, jm_n, jz_n, i_lit, i_c0, i_c1, Int.toNat_of_nonneg, Int.toNat_natCast, jrow_same, jrow_ne, jrow_jrow, sset_eq, sset_ne]
      rw [sp_217n p1 p2 (by rw [e355]; exact v) (by rw [e355]; exact a3') (by rw [e355]; exact a4')]
      simp only [zk_l, zk_r, Option.toList_some, Option.toList_none, List.cons_append, List.nil_append, zrokB, zrokB0, zrokB1, zrokJ0, zrokJ1, and_true, true_and, and_self, if_true, if_false, b2_0, b2_1, b2_not, ite_self]
      rw [sg_252_11, sp_178f]
      simp only [sset_ss, zk_l, zk_r, Option.toList_some, Option.toList_none, List.cons_append, List.nil_append, zrokB, zrokB0, zrokB1, zrokJ0, zrokJ1, and_true, true_and, and_self, if_true, if_false, b2_0, b2_1, b2_not, ite_self, jI_cl, jm_n, jz_n, i_lit, i_c0, i_c1, Int.toNat_of_nonneg, Int.toNat_natCast, jrow_same, jrow_ne, jrow_jrow, sset_eq, sset_ne]
      rw [sg_252_15, if_neg (by decide), sg_252_40]
theorem op_setSetpoint (hk : k ≤ 30000) {a b : Int} (a1 : -2147483648 ≤ a) (a2 : a < 2147483648) (x1 : -2147483648 ≤ b) (x2 : b < 2147483648) : Op W k [0, 1] 111 260 [.ref 0, .int (jI a), .int (jI b), .float 0] [.ref 353, .int (jI a), .int (jI b), .float 0] := by
  intro J g t
  obtain ⟨-, t2, t3, -⟩ := id t
  obtain ⟨a1', a2', a3', a4', a5', a6'⟩ := t3.1
  obtain ⟨b1, b2x, b3, b4, b5, b6, b7, b8, b9, b10, b11, b12⟩ := t2.1
  obtain ⟨-, hS, hU, -⟩ := id g
  obtain ⟨d1, d2, d3, hpl, hq, hc, ho⟩ := id hS
  have hcx := GC_cx g t hk
  have hu3 := hU.2.1
  by_cases v : 0 ≤ a ∧ a < J 355 4
  · have href : ∀ (J2 : zJ), J2 355 = J 355 → ∀ Q : zO → zI → Prop, wz W 260 0 [.ref 353, .int (jI a), .int (jI b), .float 0] [] (jm J2) Q = wz W 178 0 [.ref 353, .int (b2 (decide (-30 ≤ b) && decide (b ≤ 20))), .int (jI 2)] [] (jm (jrow J2 353 (sset (J2 353) 0 0))) (zk Q (fun v I1 => wz W 260 31 [.ref 353, .int (jI a), .int (jI b), .float 0] (v.toList ++ []) I1 Q)) := by
      intro J2 e55 Q
      have e9 : ∀ f, jrow J2 353 f 355 = J 355 := fun f => e355.trans e55
      rw [sg_260_0]
      simp (disch := first | assumption | omega) only [jI_cl, jm_n, jz_n, i_lit, i_c0, i_c1, Int.toNat_of_nonneg, Int.toNat_natCast, jrow_same, jrow_ne, jrow_jrow, sset_eq, sset_ne]
      rw [sp_215v v.1 (by rw [e9]; exact v.2) (by rw [e9]; exact b8)]
      simp only [zk_l, zk_r, Option.toList_some, Option.toList_none, List.cons_append, List.nil_append, zrokB, zrokB0, zrokB1, zrokJ0, zrokJ1, and_true, true_and, and_self, if_true, if_false, b2_0, b2_1, b2_not, ite_self]
      rw [sg_260_11, sp_178t]
      simp only [zk_l, zk_r, Option.toList_some, Option.toList_none, List.cons_append, List.nil_append, zrokB, zrokB0, zrokB1, zrokJ0, zrokJ1, and_true, true_and, and_self, if_true, if_false, b2_0, b2_1, b2_not, ite_self]
      rw [sg_260_15, if_pos (by decide), sp_176j x1 x2 (by omega) (by omega) (by omega) (by omega)]
      simp only [zk_l, zk_r, Option.toList_some, Option.toList_none, List.cons_append, List.nil_append, zrokB, zrokB0, zrokB1, zrokJ0, zrokJ1, and_true, true_and, and_self, if_true, if_false, b2_0, b2_1, b2_not, ite_self]
      rw [sg_260_27]
    have hset := (hc a v.1 v.2).1
    have hta := t3.2.1 a v.1 v.2
    by_cases w : -30 ≤ b ∧ b ≤ 20
    · obtain ⟨ok1, ok2⟩ := setp_ok t2 t3 v.1 v.2 w.1 w.2
      refine opc g t hk (t' := sset (J 355) (12 + 8 * a + 3) b) (v := J 355 (12 + 8 * a + 3)) ok1 (okD_mono ok2 (Int.le_refl _) (by omega)) (fun J1 k1 hx1 h348 => ?_) (fun J2 h348 => ?_)
      · refine ⟨jrow J1 (49 + 19 + 1) (sset (J1 (49 + 19 + 1)) a b), fun Q => ?_, ?_, fun r hr => jrow_ne (by omega)⟩
        · rw [sg_111_0, sp_164v v.1 (by omega) (by omega)]
          simp only [zk_l, zk_r, Option.toList_some, Option.toList_none, List.cons_append, List.nil_append, zrokB, zrokB0, zrokB1, zrokJ0, zrokJ1, and_true, true_and, and_self, if_true, if_false, b2_0, b2_1, b2_not, ite_self]
          rw [sg_111_5, if_neg (by rw [jI_lt (by omega) (by omega) (by omega) (by omega)]; omega), if_pos (by rw [jI_le (by omega) (by omega) (by omega) (by omega)]; omega), sp_45 (zStk_r13 zStk_49) v.1 (by omega) (by decide), hset]
          simp only [zk_l, zk_r, Option.toList_some, Option.toList_none, List.cons_append, List.nil_append, zrokB, zrokB0, zrokB1, zrokJ0, zrokJ1, and_true, true_and, and_self, if_true, if_false, b2_0, b2_1, b2_not, ite_self]
          rw [sg_111_38, k1]
          simp only [zk_l, zk_r, Option.toList_some, Option.toList_none, List.cons_append, List.nil_append, zrokB, zrokB0, zrokB1, zrokJ0, zrokJ1, and_true, true_and, and_self, if_true, if_false, b2_0, b2_1, b2_not, ite_self]
          rw [sg_111_50, sp_46 (zStk_r13 zStk_49) v.1 (by omega) (by decide)]
          simp only [zk_l, zk_r, Option.toList_some, Option.toList_none, List.cons_append, List.nil_append, zrokB, zrokB0, zrokB1, zrokJ0, zrokJ1, and_true, true_and, and_self, if_true, if_false, b2_0, b2_1, b2_not, ite_self]
          rw [sg_111_62]
        · obtain ⟨x1, x2, x3, x4, x5, x6, x7⟩ := hx1.2.1
          refine ⟨by rw [jrow_ne (by decide), sset_ne (by omega)]; exact x1, by rw [jrow_ne (by decide), sset_ne (by omega)]; exact x2, by rw [jrow_ne (by decide), sset_ne (by omega)]; exact x3, fun q q0 q1 => ?_, fun i i0 i1 => ?_, fun c c0 c1 => ?_, fun o o0 o1 => ?_⟩
          · rw [sset_ne (by omega)] at q1
            simp (disch := first | assumption | omega) only [jrow_ne, sset_ne]
            exact x4 q q0 q1
          · rw [sset_ne (by omega)] at i1
            rw [jrow_ne (by decide), sset_ne (by omega)]
            exact x5 i i0 i1
          · rw [sset_ne (by omega)] at c1
            obtain ⟨y1, y2, y3⟩ := x6 c c0 c1
            rw [jrow_same, jrow_ne (by decide), jrow_ne (by decide), sset_ne (show 12 + 8 * c + 4 ≠ 12 + 8 * a + 3 by omega), sset_ne (show 12 + 8 * c + 5 ≠ 12 + 8 * a + 3 by omega)]
            refine ⟨?_, y2, y3⟩
            by_cases e : c = a
            · rw [e, sset_eq rfl, sset_eq rfl]
            · rw [sset_ne e, sset_ne (by omega)]
              exact y1
          · rw [sset_ne (by omega)] at o1
            rw [jrow_ne (by decide), sset_ne (by omega)]
            exact x7 o o0 o1
      · have e55 := h348 355 (by decide)
        have e53 := h348 353 (by decide)
        obtain ⟨J', s1, s2, s3, s4, s5, -⟩ := rec55 (W := W) (th0_1 J2) (by rw [e53]; exact t.2.2.2.1.1) (by rw [e53]; exact t.2.2.2.1.2.1)
        rw [e55] at s2
        refine ⟨jrow J' 355 (sset (J 355) (12 + 8 * a + 3) b), fun Q => ?_, s5 _⟩
        rw [href J2 e55, decide_eq_true w.1, decide_eq_true w.2]
        refine Eq.trans (sp_178t (W := W) 2) ?_
        simp only [zk_l, zk_r, Option.toList_some, Option.toList_none, List.cons_append, List.nil_append, zrokB, zrokB0, zrokB1, zrokJ0, zrokJ1, and_true, true_and, and_self, if_true, if_false, b2_0, b2_1, b2_not, ite_self]
        rw [sg_260_31, if_pos (by decide), s1]
        simp only [zk_l, zk_r, Option.toList_some, Option.toList_none, List.cons_append, List.nil_append, zrokB, zrokB0, zrokB1, zrokJ0, zrokJ1, and_true, true_and, and_self, if_true, if_false, b2_0, b2_1, b2_not, ite_self]
        rw [sg_260_44, sp_219 (by omega) (by omega) v.1 (by omega), s2]
        simp only [zk_l, zk_r, Option.toList_some, Option.toList_none, List.cons_append, List.nil_append, zrokB, zrokB0, zrokB1, zrokJ0, zrokJ1, and_true, true_and, and_self, if_true, if_false, b2_0, b2_1, b2_not, ite_self]
        rw [sg_260_50]
        simp (disch := first | assumption | omega) only [s2, zk_l, zk_r, Option.toList_some, Option.toList_none, List.cons_append, List.nil_append, zrokB, zrokB0, zrokB1, zrokJ0, zrokJ1, and_true, true_and, and_self, if_true, if_false, b2_0, b2_1, b2_not, ite_self, Int.add_zero, jI_nat, jI_add, jI_sub, jI_mul, jI_neg, jI_lt, jI_le, jI_eq, jI_lt0, jI_0lt, jI_le0, jI_0le, jI_eq0, jI_in, jI_dv, i_mod, jI_cl, jm_n, jz_n, i_lit, i_c0, i_c1, Int.toNat_of_nonneg, Int.toNat_natCast, jrow_same, jrow_ne, jrow_jrow, sset_eq, sset_ne]
    · have ef : (decide (-30 ≤ b) && decide (b ≤ 20)) = false := by
        rw [← Bool.not_eq_true, Bool.and_eq_true, decide_eq_true_eq, decide_eq_true_eq]
        exact w
      refine opq g t ⟨oE 1, J, 0, jrow J 353 (sset (J 353) 0 2), fun Q => ?_, fun Q => ?_, kp_thr, mt_er 1 1 rfl rfl⟩
      · rw [sg_111_0, sp_164v v.1 (by omega) (by omega)]
        simp only [zk_l, zk_r, Option.toList_some, Option.toList_none, List.cons_append, List.nil_append, zrokB, zrokB0, zrokB1, zrokJ0, zrokJ1, and_true, true_and, and_self, if_true, if_false, b2_0, b2_1, b2_not, ite_self]
        rw [sg_111_5]
        by_cases c : b < -30
        · rw [if_pos (by rw [jI_lt (by omega) (by omega) (by omega) (by omega)]; omega), sg_111_17]
        · rw [if_neg (by rw [jI_lt (by omega) (by omega) (by omega) (by omega)]; omega), if_neg (by rw [jI_le (by omega) (by omega) (by omega) (by omega)]; omega), sg_111_17]
      · rw [href J rfl, ef]
        refine Eq.trans (sp_178f (W := W) 2) ?_
        simp only [sset_ss, zk_l, zk_r, Option.toList_some, Option.toList_none, List.cons_append, List.nil_append, zrokB, zrokB0, zrokB1, zrokJ0, zrokJ1, and_true, true_and, and_self, if_true, if_false, b2_0, b2_1, b2_not, ite_self, jI_cl, jm_n, jz_n, i_lit, i_c0, i_c1, Int.toNat_of_nonneg, Int.toNat_natCast, jrow_same, jrow_ne, jrow_jrow, sset_eq, sset_ne]
        rw [sg_260_31, if_neg (by decide), sg_260_34]
  · refine opq g t ⟨oE 0, J, 0, jrow J 353 (sset (J 353) 0 1), fun Q => ?_, fun Q => ?_, kp_thr, mt_er 0 0 rfl rfl⟩
    · rw [sg_111_0, sp_164n a1 a2 (by rw [hu3]; exact v) (by omega) (by omega)]
      simp only [zk_l, zk_r, Option.toList_some, Option.toList_none, List.cons_append, List.nil_append, zrokB, zrokB0, zrokB1, zrokJ0, zrokJ1, and_true, true_and, and_self, if_true, if_false, b2_0, b2_1, b2_not, ite_self]
    · rw [sg_260_0]
      simp (disch := first | assumption | omega) only [jI_cl, jm_n, jz_n, i_lit, i_c0, i_c1, Int.toNat_of_nonneg, Int.toNat_natCast, jrow_same, jrow_ne, jrow_jrow, sset_eq, sset_ne]
      rw [sp_215n a1 a2 (by rw [e355]; exact v) (by rw [e355]; exact b7) (by rw [e355]; exact b8)]
      simp only [zk_l, zk_r, Option.toList_some, Option.toList_none, List.cons_append, List.nil_append, zrokB, zrokB0, zrokB1, zrokJ0, zrokJ1, and_true, true_and, and_self, if_true, if_false, b2_0, b2_1, b2_not, ite_self]
      rw [sg_260_11, sp_178f]
      simp only [sset_ss, zk_l, zk_r, Option.toList_some, Option.toList_none, List.cons_append, List.nil_append, zrokB, zrokB0, zrokB1, zrokJ0, zrokJ1, and_true, true_and, and_self, if_true, if_false, b2_0, b2_1, b2_not, ite_self, jI_cl, jm_n, jz_n, i_lit, i_c0, i_c1, Int.toNat_of_nonneg, Int.toNat_natCast, jrow_same, jrow_ne, jrow_jrow, sset_eq, sset_ne]
      rw [sg_260_15, if_neg (by decide), sg_260_34]
end
