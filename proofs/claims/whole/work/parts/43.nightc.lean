/-! ===== the class: nights ===== -/
theorem zStk_lo {b : Nat} (h : zStk b) : 49 ≤ b ∧ b ≤ 321 := by
  unfold zStk at h
  simp only [List.mem_cons, List.not_mem_nil, or_false] at h
  omega
section
variable {W : zW} {J : zJ} {Q : zO → zI → Prop} {b : Nat} {s : Int → Int} {D k : Int}
theorem sp_81 (hb : zStk b) {c : Int} (c0 : 0 ≤ c) (c1 : c < 3) : wz W 81 0 [.ref b, .int (jI c)] [] (jm J) Q = Q (oI (10 * J (b + 19 + 1) c + J (b + 21 + 1) c)) (jm J) := by
  rw [sg_81_0 (hb := hb), sp_45 (zStk_r13 hb) c0 (by omega) (by decide)]
  simp only [zk_l, zk_r, Option.toList_some, Option.toList_none, List.cons_append, List.nil_append, zrokB, zrokB0, zrokB1, zrokJ0, zrokJ1, and_true, true_and, and_self, if_true, if_false, b2_0, b2_1, b2_not, ite_self]
  rw [sg_81_10 (hb := hb), sp_45 (zStk_r14 hb) c0 (by omega) (by decide)]
  simp only [zk_l, zk_r, Option.toList_some, Option.toList_none, List.cons_append, List.nil_append, zrokB, zrokB0, zrokB1, zrokJ0, zrokJ1, and_true, true_and, and_self, if_true, if_false, b2_0, b2_1, b2_not, ite_self]
  rw [sg_81_19 (hb := hb), jI_mul, jI_add]
theorem sp_82 (hb : zStk b) {c o : Int} (c0 : 0 ≤ c) (c1 : c < 3) (h0 : 0 ≤ J (b + 21 + 1) c + 4 * o) (h1 : J (b + 21 + 1) c + 4 * o < 2147483648) : wz W 82 0 [.ref b, .int (jI c), .int (jI o)] [] (jm J) Q = Q (oI ((J (b + 21 + 1) c + 4 * o) / 2)) (jm J) := by
  rw [sg_82_0 (hb := hb), sp_45 (zStk_r14 hb) c0 (by omega) (by decide)]
  simp only [zk_l, zk_r, Option.toList_some, Option.toList_none, List.cons_append, List.nil_append, zrokB, zrokB0, zrokB1, zrokJ0, zrokJ1, and_true, true_and, and_self, if_true, if_false, b2_0, b2_1, b2_not, ite_self]
  rw [sg_82_8 (hb := hb)]
  simp (disch := first | assumption | omega) only [Int.add_zero, jI_nat, jI_add, jI_sub, jI_mul, jI_neg, jI_lt, jI_le, jI_eq, jI_lt0, jI_0lt, jI_le0, jI_0le, jI_eq0, jI_in, jI_dv, i_mod]
theorem sp_70r (hb : zStk b) {p g : Int} (p0 : 0 ≤ p) (p1 : p < 40) (hg : J (b + 1 + 1) p = g) (g0 : 0 ≤ g) (g1 : g < 6) : wz W 70 0 [.ref b, .int (jI p)] [] (jm J) Q = Q (oR (5 + 13 + g.toNat)) (jm J) := by
  have hgd : zGds (5 + 13 + g.toNat) := zStp_g zStp_5 (by omega)
  rw [sg_70_0 (hb := hb), sp_45 (zStk_r3 hb) p0 (by omega) (by decide), hg]
  simp only [zk_l, zk_r, Option.toList_some, Option.toList_none, List.cons_append, List.nil_append, zrokB, zrokB0, zrokB1, zrokJ0, zrokJ1, and_true, true_and, and_self, if_true, if_false, b2_0, b2_1, b2_not, ite_self]
  rw [sg_70_12 (hb := hb) (hqt0 := zStp_5), sp_52 zStp_5 g0 g1]
  simp only [zk_l, zk_r, Option.toList_some, Option.toList_none, List.cons_append, List.nil_append, zrokB, zrokB0, zrokB1, zrokJ0, zrokJ1, and_true, true_and, and_self, if_true, if_false, b2_0, b2_1, b2_not, ite_self]
  rw [sg_70_15 (hb := hb) (hqt0 := hgd)]
/-- warmChambers -/
theorem sp_84 (h : CX J b s D k) (hk : k ≤ 21500) : ∃ J', (∀ Q : zO → zI → Prop, wz W 84 0 [.ref b, .float 0] [] (jm J) Q = Q oV (jm J')) ∧ RS J' b (niC s (s 4)) ∧ ∀ r, (r < b ∨ b + 27 ≤ r) → J' r = J r := by
  obtain ⟨hb, hS, hU, hK, ⟨⟨a1, a2, a3, a4, a5, a6⟩, hT, hV, hP, hW, hL, hQ, hN⟩, -, -⟩ := h
  obtain ⟨b1, b2, b3, b4, b5, b6, b7, b8, b9, b10, b11, b12⟩ := hK.1
  obtain ⟨d1, d2, d3, hpl, hq, hc, ho⟩ := hS
  obtain ⟨l1, l2⟩ := zStk_lo hb
  let fw : Nat → Int → Int := fun n c => if 0 ≤ c ∧ c < (n : Int) then (s (12 + 8 * c + 4) + 4 * s (12 + 8 * c + 5)) / 2 else J (b + 21 + 1) c
  let fo : Nat → Int → Int := fun n c => if 0 ≤ c ∧ c < (n : Int) then 0 else J (b + 23 + 1) c
  have h53 : ∀ f g : Int → Int, jm (jrow (jrow J (b + 21 + 1) f) (b + 23 + 1) g) 5 3 = jI (s 4) := by
    intro f g
    simp (disch := first | assumption | omega) only [hU.2.1, jI_cl, jm_n, jz_n, i_lit, i_c0, i_c1, Int.toNat_of_nonneg, Int.toNat_natCast, jrow_same, jrow_ne, jrow_jrow, sset_eq, sset_ne]
  refine ⟨jrow (jrow J (b + 21 + 1) (fw (s 4).toNat)) (b + 23 + 1) (fo (s 4).toNat), fun Q => ?_, ?_, ?_⟩
  · rw [sg_84_0 (hb := hb)]
    have key := zloop (f := fun n => wz W 84 2 [.ref b, .int (jI n)] [] (jm (jrow (jrow J (b + 21 + 1) (fw n)) (b + 23 + 1) (fo n))) Q) (s 4).toNat (fun n hn => by
      try simp only
      obtain ⟨f1, f2, f3⟩ := hc n (by omega) (by omega)
      have ht := hT n (by omega) (by omega)
      have ew : fw n n = s (12 + 8 * (n : Int) + 4) := by
        show (if 0 ≤ (n : Int) ∧ (n : Int) < (n : Int) then _ else _) = _
        rw [if_neg (by omega), f2]
      have eo : fo n n = s (12 + 8 * (n : Int) + 5) := by
        show (if 0 ≤ (n : Int) ∧ (n : Int) < (n : Int) then _ else _) = _
        rw [if_neg (by omega), f3]
      rw [sg_84_2 (hb := hb), h53, if_neg (by rw [jI_le (by omega) (by omega) (by omega) (by omega)]; omega), sp_45 (zStk_r15 hb) (by omega) (by omega) (by decide)]
      simp (disch := first | assumption | omega) only [eo, zk_l, zk_r, Option.toList_some, Option.toList_none, List.cons_append, List.nil_append, zrokB, zrokB0, zrokB1, zrokJ0, zrokJ1, and_true, true_and, and_self, if_true, if_false, b2_0, b2_1, b2_not, ite_self, jI_cl, jm_n, jz_n, i_lit, i_c0, i_c1, Int.toNat_of_nonneg, Int.toNat_natCast, jrow_same, jrow_ne, jrow_jrow, sset_eq, sset_ne]
      rw [sg_84_28 (hb := hb) (hqt0 := zStk_r14 hb), sp_82 hb (by omega) (by omega) (by simp (disch := first | assumption | omega) only [ew, jI_cl, jm_n, jz_n, i_lit, i_c0, i_c1, Int.toNat_of_nonneg, Int.toNat_natCast, jrow_same, jrow_ne, jrow_jrow, sset_eq, sset_ne]; omega) (by simp (disch := first | assumption | omega) only [ew, jI_cl, jm_n, jz_n, i_lit, i_c0, i_c1, Int.toNat_of_nonneg, Int.toNat_natCast, jrow_same, jrow_ne, jrow_jrow, sset_eq, sset_ne]; omega)]
      simp (disch := first | assumption | omega) only [ew, zk_l, zk_r, Option.toList_some, Option.toList_none, List.cons_append, List.nil_append, zrokB, zrokB0, zrokB1, zrokJ0, zrokJ1, and_true, true_and, and_self, if_true, if_false, b2_0, b2_1, b2_not, ite_self, jI_cl, jm_n, jz_n, i_lit, i_c0, i_c1, Int.toNat_of_nonneg, Int.toNat_natCast, jrow_same, jrow_ne, jrow_jrow, sset_eq, sset_ne]
      rw [sg_84_31 (hb := hb) (hqt0 := zStk_r14 hb), sp_46 (zStk_r14 hb) (by omega) (by omega) (by decide)]
      simp (disch := first | assumption | omega) only [zk_l, zk_r, Option.toList_some, Option.toList_none, List.cons_append, List.nil_append, zrokB, zrokB0, zrokB1, zrokJ0, zrokJ1, and_true, true_and, and_self, if_true, if_false, b2_0, b2_1, b2_not, ite_self, jI_cl, jm_n, jz_n, i_lit, i_c0, i_c1, Int.toNat_of_nonneg, Int.toNat_natCast, jrow_same, jrow_ne, jrow_jrow, sset_eq, sset_ne]
      rw [sg_84_34 (hb := hb), sp_46 (zStk_r15 hb) (by omega) (by omega) (by decide)]
      simp (disch := first | assumption | omega) only [zk_l, zk_r, Option.toList_some, Option.toList_none, List.cons_append, List.nil_append, zrokB, zrokB0, zrokB1, zrokJ0, zrokJ1, and_true, true_and, and_self, if_true, if_false, b2_0, b2_1, b2_not, ite_self, jI_cl, jm_n, jz_n, i_lit, i_c0, i_c1, Int.toNat_of_nonneg, Int.toNat_natCast, jrow_same, jrow_ne, jrow_jrow, sset_eq, sset_ne]
      rw [sg_84_43 (hb := hb), jI_add]
      have e1 : sset (fw n) n ((s (12 + 8 * (n : Int) + 4) + 4 * s (12 + 8 * (n : Int) + 5)) / 2) = fw (n + 1) := by
        funext j
        show (if j = (n : Int) then _ else if 0 ≤ j ∧ j < (n : Int) then _ else _) = (if 0 ≤ j ∧ j < ((n + 1 : Nat) : Int) then _ else _)
        by_cases q : j = n
        · rw [if_pos q, if_pos (by omega), q]
        · rw [if_neg q]
          by_cases q2 : 0 ≤ j ∧ j < (n : Int)
          · rw [if_pos q2, if_pos (by omega)]
          · rw [if_neg q2, if_neg (by omega)]
      have e2 : sset (fo n) n 0 = fo (n + 1) := by
        funext j
        show (if j = (n : Int) then _ else if 0 ≤ j ∧ j < (n : Int) then _ else _) = (if 0 ≤ j ∧ j < ((n + 1 : Nat) : Int) then _ else _)
        by_cases q : j = n
        · rw [if_pos q, if_pos (by omega)]
        · rw [if_neg q]
          by_cases q2 : 0 ≤ j ∧ j < (n : Int)
          · rw [if_pos q2, if_pos (by omega)]
          · rw [if_neg q2, if_neg (by omega)]
      have e3 : jrow (jrow (jrow (jrow J (b + 21 + 1) (fw n)) (b + 23 + 1) (fo n)) (b + 21 + 1) (fw (n + 1))) (b + 23 + 1) (fo (n + 1)) = jrow (jrow J (b + 21 + 1) (fw (n + 1))) (b + 23 + 1) (fo (n + 1)) := by
        funext x
        by_cases q : x = b + 23 + 1
        · rw [q, jrow_same, jrow_same]
        · rw [jrow_ne q, jrow_ne q]
          by_cases q2 : x = b + 21 + 1
          · rw [q2, jrow_same, jrow_same]
          · rw [jrow_ne q2, jrow_ne q, jrow_ne q2, jrow_ne q2]
      rw [e1, e2, e3]
      rfl)
    have z0 : jrow (jrow J (b + 21 + 1) (fw 0)) (b + 23 + 1) (fo 0) = J := by
      have q1 : fw 0 = J (b + 21 + 1) := by
        funext j
        show (if 0 ≤ j ∧ j < ((0 : Nat) : Int) then _ else _) = _
        rw [if_neg (by omega)]
      have q2 : fo 0 = J (b + 23 + 1) := by
        funext j
        show (if 0 ≤ j ∧ j < ((0 : Nat) : Int) then _ else _) = _
        rw [if_neg (by omega)]
      rw [q1, q2, jrow_id, jrow_id]
    rw [z0] at key
    refine Eq.trans key ?_
    rw [sg_84_2 (hb := hb), h53, if_pos (by rw [jI_le (by omega) (by omega) (by omega) (by omega)]; omega)]
  · refine ⟨?_, ?_, ?_, fun q q0 q1 => ?_, fun i i0 i1 => ?_, fun c e0 e1 => ?_, fun o o0 o1 => ?_⟩
    · simp (disch := first | assumption | omega) only [jI_cl, jm_n, jz_n, i_lit, i_c0, i_c1, Int.toNat_of_nonneg, Int.toNat_natCast, jrow_same, jrow_ne, jrow_jrow, sset_eq, sset_ne]
      rw [niC_ne (by omega)]; exact d1
    · simp (disch := first | assumption | omega) only [jI_cl, jm_n, jz_n, i_lit, i_c0, i_c1, Int.toNat_of_nonneg, Int.toNat_natCast, jrow_same, jrow_ne, jrow_jrow, sset_eq, sset_ne]
      rw [niC_ne (by omega)]; exact d2
    · simp (disch := first | assumption | omega) only [jI_cl, jm_n, jz_n, i_lit, i_c0, i_c1, Int.toNat_of_nonneg, Int.toNat_natCast, jrow_same, jrow_ne, jrow_jrow, sset_eq, sset_ne]
      rw [niC_ne (by omega)]; exact d3
    · simp (disch := first | assumption | omega) only [jI_cl, jm_n, jz_n, i_lit, i_c0, i_c1, Int.toNat_of_nonneg, Int.toNat_natCast, jrow_same, jrow_ne, jrow_jrow, sset_eq, sset_ne]
      rw [niC_ne (j := 6) (by omega)] at q1
      rw [niC_ne (by omega), niC_ne (by omega), niC_ne (by omega), niC_ne (by omega), niC_ne (by omega), niC_ne (by omega), niC_ne (by omega)]
      exact hpl q q0 q1
    · simp (disch := first | assumption | omega) only [jI_cl, jm_n, jz_n, i_lit, i_c0, i_c1, Int.toNat_of_nonneg, Int.toNat_natCast, jrow_same, jrow_ne, jrow_jrow, sset_eq, sset_ne]
      rw [niC_ne (j := 8) (by omega)] at i1
      rw [niC_ne (by omega)]
      exact hq i i0 i1
    · simp (disch := first | assumption | omega) only [jI_cl, jm_n, jz_n, i_lit, i_c0, i_c1, Int.toNat_of_nonneg, Int.toNat_natCast, jrow_same, jrow_ne, jrow_jrow, sset_eq, sset_ne]
      rw [niC_ne (j := 4) (by omega)] at e1
      rw [niC_ne (j := 12 + 8 * c + 3) (by omega), niC_w e0 e1, niC_o e0 e1]
      refine ⟨(hc c e0 e1).1, ?_, ?_⟩
      · show (if 0 ≤ c ∧ c < (((s 4).toNat : Nat) : Int) then _ else _) = _
        rw [if_pos (by omega)]
      · show (if 0 ≤ c ∧ c < (((s 4).toNat : Nat) : Int) then _ else _) = _
        rw [if_pos (by omega)]
    · simp (disch := first | assumption | omega) only [jI_cl, jm_n, jz_n, i_lit, i_c0, i_c1, Int.toNat_of_nonneg, Int.toNat_natCast, jrow_same, jrow_ne, jrow_jrow, sset_eq, sset_ne]
      rw [niC_ne (j := 7) (by omega)] at o1
      rw [niC_ne (by omega)]
      exact ho o o0 o1
  · intro r hr'
    simp (disch := first | assumption | omega) only [jrow_ne]
/-- heatPallets -/
def heR (u : Int → Int) (h : Int → Int) (n : Int) : Int → Int := fun p => if 0 ≤ p ∧ p < n ∧ u (72 + 7 * p + 2) ≤ 1 then u (72 + 7 * p + 4) + htF u (u (72 + 7 * p)) (waF u (u (72 + 7 * p + 3))) else h p
set_option maxHeartbeats 1000000 in
theorem sp_85 (h : CX J b s D k) (hk0 : 0 ≤ k) (hk : k ≤ 21500) : ∀ Q : zO → zI → Prop, wz W 85 0 [.ref b, .float 0, .float 0, .float 0] [] (jm J) Q = Q oV (jm (jrow J (b + 13 + 1) (heR s (J (b + 13 + 1)) (s 6)))) := by
  intro Q
  obtain ⟨hb, hS, hU, hK, hDD, hD5, hk5⟩ := h
  obtain ⟨⟨a1, a2, a3, a4, a5, a6⟩, hT, hV, hP, hW, hL, hQ, hN⟩ := id hDD
  obtain ⟨b1, b2, b3, b4, b5, b6, b7, b8, b9, b10, b11, b12⟩ := hK.1
  obtain ⟨l1, l2⟩ := zStk_lo hb
  obtain ⟨d1, d2, d3, hpl, hq, hc, ho⟩ := id hS
  rw [sg_85_0 (hb := hb)]
  obtain ⟨v', key⟩ := zloopJ (f := fun i (_ : Unit) (v : Value × Value) => wz W 85 2 [.ref b, .int (jI i), v.1, v.2] [] (jm (jrow J (b + 13 + 1) (heR s (J (b + 13 + 1)) (i : Nat)))) Q) (fun _ u => u) () (s 6).toNat (.float 0, .float 0) (fun i v hi => by
    obtain ⟨q1, q2, q3, q4, q5, q6, q7, q8, q9, q10, -⟩ := hP i (by omega) (by omega)
    obtain ⟨f1, f2, f3, f4, f5, f6, f7, f8⟩ := hpl i (by omega) (by omega)
    have hw := okW_or hW hK (p := i) (by omega) (by omega)
    have hwa := waF_bd hK hT (x := s (72 + 7 * (i : Int) + 3)) (by omega) hk0 (by omega)
    obtain ⟨g6, gd, gn, g1, g2, g3, -⟩ := RU_g hU hK q1 q2
    have hgd := hK.2.2.1 _ q1 q2
    have hh : heR s (J (b + 13 + 1)) (i : Int) (i : Int) = s (72 + 7 * (i : Int) + 4) := by
      unfold heR
      rw [if_neg (by omega), f7]
    -- the memory now, and what it has in common with the first
    have hX : CX (jrow J (b + 13 + 1) (heR s (J (b + 13 + 1)) (i : Int))) b s D k ∨ True := Or.inr trivial
    have e1 : jrow J (b + 13 + 1) (heR s (J (b + 13 + 1)) (i : Int)) (b + 1 + 1) = J (b + 1 + 1) := jrow_ne (by omega)
    have e3 : jrow J (b + 13 + 1) (heR s (J (b + 13 + 1)) (i : Int)) (b + 3 + 1) = J (b + 3 + 1) := jrow_ne (by omega)
    have e5 : jrow J (b + 13 + 1) (heR s (J (b + 13 + 1)) (i : Int)) (b + 5 + 1) = J (b + 5 + 1) := jrow_ne (by omega)
    have e19 : jrow J (b + 13 + 1) (heR s (J (b + 13 + 1)) (i : Int)) (b + 19 + 1) = J (b + 19 + 1) := jrow_ne (by omega)
    have e21 : jrow J (b + 13 + 1) (heR s (J (b + 13 + 1)) (i : Int)) (b + 21 + 1) = J (b + 21 + 1) := jrow_ne (by omega)
    have eg : jrow J (b + 13 + 1) (heR s (J (b + 13 + 1)) (i : Int)) (5 + 13 + (s (72 + 7 * (i : Int))).toNat) = J (5 + 13 + (s (72 + 7 * (i : Int))).toNat) := jrow_ne (by omega)
    have e55 : jrow J (b + 13 + 1) (heR s (J (b + 13 + 1)) (i : Int)) 5 = J 5 := jrow_ne (by omega)
    have eb : jrow J (b + 13 + 1) (heR s (J (b + 13 + 1)) (i : Int)) b = J b := jrow_ne (by omega)
    have h71 : ∀ Q : zO → zI → Prop, wz W 71 0 [.ref b, .int (jI i), .float 0] [] (jm (jrow J (b + 13 + 1) (heR s (J (b + 13 + 1)) (i : Int)))) Q = Q (oB (thr s i)) (jm (jrow J (b + 13 + 1) (heR s (J (b + 13 + 1)) (i : Int)))) := by
      intro Q
      rw [sg_71_0 (hb := hb), sp_45 (zStk_r4 hb) (by omega) (by omega) (by decide), e3, f2]
      simp only [zk_l, zk_r, Option.toList_some, Option.toList_none, List.cons_append, List.nil_append, zrokB, zrokB0, zrokB1, zrokJ0, zrokJ1, and_true, true_and, and_self, if_true, if_false, b2_0, b2_1, b2_not, ite_self]
      rw [sg_71_8 (hb := hb)]
      simp (disch := first | assumption | omega) only [sg_71_18, sg_71_23, Int.add_zero, jI_nat, jI_add, jI_sub, jI_mul, jI_neg, jI_lt, jI_le, jI_eq, jI_lt0, jI_0lt, jI_le0, jI_0le, jI_eq0, jI_in, jI_dv, i_mod, zk_l, zk_r, Option.toList_some, Option.toList_none, List.cons_append, List.nil_append, zrokB, zrokB0, zrokB1, zrokJ0, zrokJ1, and_true, true_and, and_self, if_true, if_false, b2_0, b2_1, b2_not, ite_self]
      unfold thr
      by_cases f : s (72 + 7 * (i : Int) + 2) = 0
      · rw [if_pos f, decide_eq_true (by omega)]; rfl
      · rw [if_neg f]
        by_cases f2 : s (72 + 7 * (i : Int) + 2) = 1
        · rw [if_pos f2, decide_eq_true (by omega)]; rfl
        · rw [if_neg f2, decide_eq_false (by omega)]; rfl
    have hstep : ∀ (t : Int) (x2 x3 : Value), -300 ≤ t → t ≤ 86400 → s (72 + 7 * (i : Int) + 2) ≤ 1 → t = waF s (s (72 + 7 * (i : Int) + 3)) → ∀ w : Int32, wz W 85 64 [.ref b, .int (jI i), .int w, x3] [.int (jI t)] (jm (jrow J (b + 13 + 1) (heR s (J (b + 13 + 1)) (i : Int)))) Q = wz W 85 2 [.ref b, .int (jI (i + 1 : Nat)), .int w, .int (jI t)] [] (jm (jrow J (b + 13 + 1) (heR s (J (b + 13 + 1)) ((i + 1 : Nat) : Int)))) Q := by
      intro t x2 x3 t0 t1 hp1 ht w
      rw [sg_85_64 (hb := hb), sp_70r hb (by omega) (by omega) (by rw [e1]; exact f1) q1 g6]
      simp only [zk_l, zk_r, Option.toList_some, Option.toList_none, List.cons_append, List.nil_append, zrokB, zrokB0, zrokB1, zrokJ0, zrokJ1, and_true, true_and, and_self, if_true, if_false, b2_0, b2_1, b2_not, ite_self]
      rw [sg_85_75 (hb := hb) (hqt0 := zStk_r9 hb) (hqt2 := gd), sp_12 gd (by omega) (by omega) (by rw [eg]; omega) (by rw [eg]; omega) (by rw [eg]; omega), eg, g2, g3]
      simp only [zk_l, zk_r, Option.toList_some, Option.toList_none, List.cons_append, List.nil_append, zrokB, zrokB0, zrokB1, zrokJ0, zrokJ1, and_true, true_and, and_self, if_true, if_false, b2_0, b2_1, b2_not, ite_self]
      rw [sg_85_79 (hb := hb) (hqt0 := zStk_r9 hb), sp_47 (zStk_r9 hb) (by omega) (by omega) (by decide)]
      simp (disch := first | assumption | omega) only [hh, zk_l, zk_r, Option.toList_some, Option.toList_none, List.cons_append, List.nil_append, zrokB, zrokB0, zrokB1, zrokJ0, zrokJ1, and_true, true_and, and_self, if_true, if_false, b2_0, b2_1, b2_not, ite_self, jI_cl, jm_n, jz_n, i_lit, i_c0, i_c1, Int.toNat_of_nonneg, Int.toNat_natCast, jrow_same, jrow_ne, jrow_jrow, sset_eq, sset_ne]
      rw [sg_85_82 (hb := hb), jI_add]
      have ee : sset (heR s (J (b + 13 + 1)) (i : Int)) i (s (72 + 7 * (i : Int) + 4) + (max 0 (t - 10 * s (36 + 6 * s (72 + 7 * (i : Int)) + 2)) + max 0 (10 * s (36 + 6 * s (72 + 7 * (i : Int)) + 1) - t))) = heR s (J (b + 13 + 1)) ((i + 1 : Nat) : Int) := by
        funext j
        unfold sset heR
        by_cases q : j = i
        · rw [if_pos q, q, if_pos (by omega), ht]
          rfl
        · rw [if_neg q]
          by_cases q2 : 0 ≤ j ∧ j < (i : Int) ∧ s (72 + 7 * j + 2) ≤ 1
          · rw [if_pos q2, if_pos (by omega)]
          · rw [if_neg q2, if_neg (by omega)]
      rw [ee]
      rfl
    try simp only
    rw [sg_85_2 (hb := hb), show jm (jrow J (b + 13 + 1) (heR s (J (b + 13 + 1)) (i : Int))) b 2 = jI (s 6) by simp (disch := first | assumption | omega) only [d2, jI_cl, jm_n, jz_n, i_lit, i_c0, i_c1, Int.toNat_of_nonneg, Int.toNat_natCast, jrow_same, jrow_ne, jrow_jrow, sset_eq, sset_ne], if_neg (by rw [jI_le (by omega) (by omega) (by omega) (by omega)]; omega), h71]
    simp only [zk_l, zk_r, Option.toList_some, Option.toList_none, List.cons_append, List.nil_append, zrokB, zrokB0, zrokB1, zrokJ0, zrokJ1, and_true, true_and, and_self, if_true, if_false, b2_0, b2_1, b2_not, ite_self]
    rw [sg_85_15 (hb := hb)]
    by_cases hp1 : s (72 + 7 * (i : Int) + 2) ≤ 1
    · have ht1 : thr s i = true := decide_eq_true hp1
      rw [ht1, if_neg (by decide), sp_45 (zStk_r4 hb) (by omega) (by omega) (by decide), e3, f2]
      simp only [zk_l, zk_r, Option.toList_some, Option.toList_none, List.cons_append, List.nil_append, zrokB, zrokB0, zrokB1, zrokJ0, zrokJ1, and_true, true_and, and_self, if_true, if_false, b2_0, b2_1, b2_not, ite_self]
      rw [sg_85_26 (hb := hb)]
      simp (disch := first | assumption | omega) only [Int.add_zero, jI_nat, jI_add, jI_sub, jI_mul, jI_neg, jI_lt, jI_le, jI_eq, jI_lt0, jI_0lt, jI_le0, jI_0le, jI_eq0, jI_in, jI_dv, i_mod]
      by_cases hp0 : s (72 + 7 * (i : Int) + 2) = 0
      · have hx : s (72 + 7 * (i : Int) + 3) = -1 := (hW i (by omega) (by omega)).2 (by omega)
        have ewa : 10 * s 3 = waF s (s (72 + 7 * (i : Int) + 3)) := by unfold waF; rw [if_pos hx]
        refine ⟨(.int (jI 1), .int (jI (10 * s 3))), ?_⟩
        rw [if_pos hp0, sg_85_34 (hb := hb), if_neg (by decide)]
        simp (disch := first | assumption | omega) only [hU.2.2.2.2.2.1, Int.add_zero, jI_nat, jI_add, jI_sub, jI_mul, jI_neg, jI_lt, jI_le, jI_eq, jI_lt0, jI_0lt, jI_le0, jI_0le, jI_eq0, jI_in, jI_dv, i_mod, jI_cl, jm_n, jz_n, i_lit, i_c0, i_c1, Int.toNat_of_nonneg, Int.toNat_natCast, jrow_same, jrow_ne, jrow_jrow, sset_eq, sset_ne]
        rw [hstep (10 * s 3) (.float 0) v.2 (by omega) (by omega) hp1 ewa]
      · rcases hw with hw | ⟨x0, x1, x2, x3, x4⟩
        · have := (hW i (by omega) (by omega)).1 (by omega)
          omega
        · have ewa : 10 * s (12 + 8 * (s (72 + 7 * (i : Int) + 3) / 24) + 3) + s (12 + 8 * (s (72 + 7 * (i : Int) + 3) / 24) + 4) = waF s (s (72 + 7 * (i : Int) + 3)) := by unfold waF; rw [if_neg (by omega)]
          have hch : chOf (s (72 + 7 * (i : Int) + 3)) = s (72 + 7 * (i : Int) + 3) / 24 := by unfold chOf; rw [if_neg (by omega)]
          obtain ⟨c1, c2, c3⟩ := hc (s (72 + 7 * (i : Int) + 3) / 24) (by omega) x1
          refine ⟨(.int (jI 0), .int (jI (waF s (s (72 + 7 * (i : Int) + 3))))), ?_⟩
          rw [if_neg hp0, sg_85_34 (hb := hb), if_pos (by decide), sp_45 (zStk_r5 hb) (by omega) (by omega) (by decide), e5, f3, hch]
          simp only [zk_l, zk_r, Option.toList_some, Option.toList_none, List.cons_append, List.nil_append, zrokB, zrokB0, zrokB1, zrokJ0, zrokJ1, and_true, true_and, and_self, if_true, if_false, b2_0, b2_1, b2_not, ite_self]
          rw [sg_85_61 (hb := hb), sp_81 hb (by omega) (by omega), e19, e21, c1, c2, ewa]
          simp only [zk_l, zk_r, Option.toList_some, Option.toList_none, List.cons_append, List.nil_append, zrokB, zrokB0, zrokB1, zrokJ0, zrokJ1, and_true, true_and, and_self, if_true, if_false, b2_0, b2_1, b2_not, ite_self]
          rw [hstep (waF s (s (72 + 7 * (i : Int) + 3))) (.float 0) v.2 (by omega) (by omega) hp1 rfl]
    · have ht1 : thr s i = false := decide_eq_false hp1
      refine ⟨v, ?_⟩
      rw [ht1, if_pos (by decide), sg_85_82 (hb := hb), jI_add]
      have ee : heR s (J (b + 13 + 1)) (i : Int) = heR s (J (b + 13 + 1)) ((i + 1 : Nat) : Int) := by
        funext j
        unfold heR
        by_cases q2 : 0 ≤ j ∧ j < (i : Int) ∧ s (72 + 7 * j + 2) ≤ 1
        · rw [if_pos q2, if_pos (by omega)]
        · rw [if_neg q2]
          by_cases q : j = i
          · rw [if_neg (by rw [q]; omega)]
          · rw [if_neg (by omega)]
      rw [ee]
      rfl)
  have z0 : jrow J (b + 13 + 1) (heR s (J (b + 13 + 1)) ((0 : Nat) : Int)) = J := by
    have : heR s (J (b + 13 + 1)) ((0 : Nat) : Int) = J (b + 13 + 1) := by
      funext j
      unfold heR
      rw [if_neg (by omega)]
    rw [this, jrow_id]
  rw [z0] at key
  refine Eq.trans key ?_
  try simp only
  rw [sg_85_2 (hb := hb), show jm (jrow J (b + 13 + 1) (heR s (J (b + 13 + 1)) (((s 6).toNat : Nat) : Int))) b 2 = jI (s 6) by simp (disch := first | assumption | omega) only [d2, jI_cl, jm_n, jz_n, i_lit, i_c0, i_c1, Int.toNat_of_nonneg, Int.toNat_natCast, jrow_same, jrow_ne, jrow_jrow, sset_eq, sset_ne], if_pos (by rw [jI_le (by omega) (by omega) (by omega) (by omega)]; omega), Int.toNat_of_nonneg a3]
end
