/-! ===== the class: taint at night, several nights ===== -/
/-- the taints after the first n of the queue -/
def tnR (u : Int → Int) (f : Int → Int) : Nat → Int → Int
  | 0 => f
  | n + 1 => sset (tnR u f n) (u (392 + (n : Int))) (tnR u f n (u (392 + (n : Int))) + smF u (u (72 + 7 * u (392 + (n : Int)))))
theorem tnR_at {u f : Int → Int} {m : Nat} (hne : ∀ i j, 0 ≤ i → i < j → j < (m : Int) → u (392 + i) ≠ u (392 + j)) : ∀ n : Nat, n ≤ m → (∀ i : Nat, i < n → tnR u f n (u (392 + (i : Int))) = f (u (392 + (i : Int))) + smF u (u (72 + 7 * u (392 + (i : Int))))) ∧ ∀ p, (∀ i : Nat, i < n → u (392 + (i : Int)) ≠ p) → tnR u f n p = f p := by
  intro n
  induction n with
  | zero => intro _; exact ⟨fun i hi => by omega, fun p _ => rfl⟩
  | succ n ih =>
    intro hn
    obtain ⟨h1, h2⟩ := ih (by omega)
    have hn9 : ∀ i : Nat, i < n → u (392 + (i : Int)) ≠ u (392 + (n : Int)) := fun i hi => hne i n (by omega) (by omega) (by omega)
    refine ⟨fun i hi => ?_, fun p hp => ?_⟩
    · show sset (tnR u f n) (u (392 + (n : Int))) _ (u (392 + (i : Int))) = _
      by_cases e : i = n
      · rw [e, sset_eq rfl, h2 _ hn9]
      · rw [sset_ne (hn9 i (by omega)), h1 i (by omega)]
    · show sset (tnR u f n) (u (392 + (n : Int))) _ p = _
      rw [sset_ne (fun h => hp n (by omega) h.symm), h2 p (fun i hi => hp i (by omega))]
section
variable {W : zW} {J : zJ} {Q : zO → zI → Prop} {b : Nat} {u : Int → Int} {D k : Int}
set_option maxHeartbeats 1000000 in
theorem sp_86 (hb : zStk b) (hU : RU J 5 u) (hK : okK u) (h11 : J b 11 = u 8) (h8 : 0 ≤ u 8) (h8' : u 8 ≤ 8) (hw : ∀ i, 0 ≤ i → i < u 8 → J (b + 17 + 1) i = u (392 + i)) (hg : ∀ i, 0 ≤ i → i < u 8 → 0 ≤ u (392 + i) ∧ u (392 + i) < 40 ∧ J (b + 1 + 1) (u (392 + i)) = u (72 + 7 * u (392 + i)) ∧ 0 ≤ u (72 + 7 * u (392 + i)) ∧ u (72 + 7 * u (392 + i)) < u 5) :
    ∀ Q : zO → zI → Prop, wz W 86 0 [.ref b, .float 0, .float 0, .float 0, .float 0, .float 0, .float 0] [] (jm J) Q = Q oV (jm (jrow J (b + 15 + 1) (tnR u (J (b + 15 + 1)) (u 8).toNat))) := by
  intro Q
  obtain ⟨b1, b2, b3, b4, b5, b6, b7, b8, b9, b10, b11, b12⟩ := hK.1
  obtain ⟨l1, l2⟩ := zStk_lo hb
  have hq : ∀ i, 0 ≤ i → i < u 8 → 0 ≤ u (392 + i) ∧ u (392 + i) < 40 ∧ 0 ≤ u (72 + 7 * u (392 + i)) ∧ u (72 + 7 * u (392 + i)) < u 5 := fun i i0 i1 => by
    obtain ⟨x1, x2, x3, x4, x5⟩ := hg i i0 i1
    exact ⟨x1, x2, x4, x5⟩
  rw [sg_86_0 (hb := hb)]
  have hrow : ∀ (T : Int → Int) (r : Nat), r ≠ b + 15 + 1 → jrow J (b + 15 + 1) T r = J r := fun T r hr => jrow_ne hr
  have e11 : ∀ T : Int → Int, jm (jrow J (b + 15 + 1) T) b 11 = jI (u 8) := fun T => by simp (disch := first | assumption | omega) only [h11, jI_cl, jm_n, jz_n, i_lit, i_c0, i_c1, Int.toNat_of_nonneg, Int.toNat_natCast, jrow_same, jrow_ne, jrow_jrow, sset_eq, sset_ne]
  have h45 : ∀ (T : Int → Int) (i : Nat) (Q : zO → zI → Prop), (i : Int) < u 8 → wz W 45 0 [.ref (b + 17), .int (jI i)] [] (jm (jrow J (b + 15 + 1) T)) Q = Q (oI (u (392 + (i : Int)))) (jm (jrow J (b + 15 + 1) T)) := fun T i Q hi => by
    rw [sp_45 (zStk_r12 hb) (by omega) (by omega) (by decide), hrow T _ (by omega), hw i (by omega) hi]
  have h70 : ∀ (T : Int → Int) (i : Nat) (Q : zO → zI → Prop), (i : Int) < u 8 → wz W 70 0 [.ref b, .int (jI (u (392 + (i : Int))))] [] (jm (jrow J (b + 15 + 1) T)) Q = Q (oR (5 + 13 + (u (72 + 7 * u (392 + (i : Int)))).toNat)) (jm (jrow J (b + 15 + 1) T)) := fun T i Q hi => by
    obtain ⟨x1, x2, x3, x4, x5⟩ := hg i (by omega) hi
    rw [sp_70r hb x1 (by omega) (by rw [hrow T _ (by omega)]; exact x3) x4 (by omega)]
  obtain ⟨v', key⟩ := zloopJ (f := fun i (_ : Unit) (v : Value × Value × Value × Value × Value) => wz W 86 2 [.ref b, .int (jI i), v.1, v.2.1, v.2.2.1, v.2.2.2.1, v.2.2.2.2] [] (jm (jrow J (b + 15 + 1) (tnR u (J (b + 15 + 1)) i))) Q) (fun _ u => u) () (u 8).toNat (.float 0, .float 0, .float 0, .float 0, .float 0) (fun i v hi => by
    obtain ⟨x1, x2, x3, x4, x5⟩ := hg i (by omega) (by omega)
    obtain ⟨g6, gd, gn, g1, g2, g3, g4, g5, g7⟩ := RU_g hU hK x4 x5
    obtain ⟨-, -, -, -, -, -, -, s1, s2, -⟩ := hK.2.2.1 _ x4 x5
    have hsm := smK_bd2 hK.2.2.1 hq x4 x5
    generalize hT : tnR u (J (b + 15 + 1)) i = T
    generalize hown : u (72 + 7 * u (392 + (i : Int))) = own at *
    obtain ⟨v6, key2⟩ := zloopJ (f := fun j (_ : Unit) (v : Value) => wz W 86 31 [.ref b, .int (jI i), .int (jI (u (392 + (i : Int)))), .ref (5 + 13 + own.toNat), .int (jI (smK u own j)), .int (jI j), v] [] (jm (jrow J (b + 15 + 1) T)) Q) (fun _ u => u) () (u 8).toNat v.2.2.2.2 (fun j v hj => by
      obtain ⟨y1, y2, y3, y4, y5⟩ := hg j (by omega) (by omega)
      obtain ⟨f6, fd, fn, f1, f2, f3, f4, f5, f7⟩ := RU_g hU hK y4 y5
      obtain ⟨-, -, -, -, -, t1, t2, -⟩ := hK.2.2.1 _ y4 y5
      have hb9 := hsm j (by omega)
      have hUT : RU (jrow J (b + 15 + 1) T) 5 u := RU_fr hU hK (fun r r0 r1 => hrow T r (by omega))
      refine ⟨.ref (5 + 13 + (u (72 + 7 * u (392 + (j : Int)))).toNat), ?_⟩
      try simp only
      rw [sg_86_31 (hb := hb) (hqx3 := gd), e11, if_neg (by rw [jI_le (by omega) (by omega) (by omega) (by omega)]; omega), h45 T j _ (by omega)]
      simp only [zk_l, zk_r, Option.toList_some, Option.toList_none, List.cons_append, List.nil_append, zrokB, zrokB0, zrokB1, zrokJ0, zrokJ1, and_true, true_and, and_self, if_true, if_false, b2_0, b2_1, b2_not, ite_self]
      rw [sg_86_50 (hb := hb) (hqx3 := gd), h70 T j _ (by omega)]
      simp only [zk_l, zk_r, Option.toList_some, Option.toList_none, List.cons_append, List.nil_append, zrokB, zrokB0, zrokB1, zrokJ0, zrokJ1, and_true, true_and, and_self, if_true, if_false, b2_0, b2_1, b2_not, ite_self]
      rw [sg_86_53 (hb := hb) (hqx3 := gd) (hqt0 := fd), sp_9s hUT hK y4 y5 x4 x5]
      simp only [zk_l, zk_r, Option.toList_some, Option.toList_none, List.cons_append, List.nil_append, zrokB, zrokB0, zrokB1, zrokJ0, zrokJ1, and_true, true_and, and_self, if_true, if_false, b2_0, b2_1, b2_not, ite_self]
      rw [sg_86_61 (hb := hb) (hqx3 := gd) (hqx6 := fd)]
      simp only [sg_86_81 (hb := hb) (hqx3 := gd) (hqx6 := fd), b2_0, jI_add]
      have r5 : jm (jrow J (b + 15 + 1) T) (5 + 13 + (u (72 + 7 * u (392 + (j : Int)))).toNat) 5 = jI (u (36 + 6 * u (72 + 7 * u (392 + (j : Int))) + 4)) := by
        rw [jm_l, hrow T _ (by omega), f5]
      have r6 : jm (jrow J (b + 15 + 1) T) (5 + 13 + own.toNat) 6 = jI (u (36 + 6 * own + 5)) := by
        rw [jm_l, hrow T _ (by omega), g7]
      rw [r5, r6, jI_sub, jmax_j (by omega) (by omega) (by omega) (by omega)]
      have e : smK u own (j + 1) = if u (72 + 7 * u (392 + (j : Int))) ≠ own ∧ smK u own j < u (36 + 6 * u (72 + 7 * u (392 + (j : Int))) + 4) - u (36 + 6 * own + 5) then u (36 + 6 * u (72 + 7 * u (392 + (j : Int))) + 4) - u (36 + 6 * own + 5) else smK u own j := rfl
      rw [e]
      unfold tnt
      generalize u (36 + 6 * u (72 + 7 * u (392 + (j : Int))) + 4) = sm at *
      generalize u (36 + 6 * own + 5) = se at *
      by_cases c1 : u (72 + 7 * u (392 + (j : Int))) = own
      · rw [decide_eq_false (fun h => h c1), Bool.false_and, if_pos rfl, if_neg (fun h => h.1 c1)]
        rfl
      · rw [decide_eq_true c1, Bool.true_and]
        by_cases c2 : se < sm
        · rw [decide_eq_true c2, if_neg (by decide)]
          by_cases c3 : smK u own j < sm - se
          · rw [if_pos ⟨c1, c3⟩, show max (smK u own j) (sm - se) = sm - se by omega]
            rfl
          · rw [if_neg (fun h => c3 h.2), show max (smK u own j) (sm - se) = smK u own j by omega]
            rfl
        · rw [decide_eq_false c2, if_pos rfl, if_neg (by omega)]
          rfl)
    refine ⟨(.int (jI (u (392 + (i : Int)))), .ref (5 + 13 + own.toNat), .int (jI (smF u own)), .int (jI (u 8)), v6), ?_⟩
    try simp only
    rw [sg_86_2 (hb := hb), e11, if_neg (by rw [jI_le (by omega) (by omega) (by omega) (by omega)]; omega), h45 T i _ (by omega)]
    simp only [zk_l, zk_r, Option.toList_some, Option.toList_none, List.cons_append, List.nil_append, zrokB, zrokB0, zrokB1, zrokJ0, zrokJ1, and_true, true_and, and_self, if_true, if_false, b2_0, b2_1, b2_not, ite_self]
    rw [sg_86_18 (hb := hb), h70 T i _ (by omega), hown]
    simp only [zk_l, zk_r, Option.toList_some, Option.toList_none, List.cons_append, List.nil_append, zrokB, zrokB0, zrokB1, zrokJ0, zrokJ1, and_true, true_and, and_self, if_true, if_false, b2_0, b2_1, b2_not, ite_self]
    rw [sg_86_24 (hb := hb) (hqt0 := gd)]
    refine Eq.trans key2 ?_
    try simp only
    have hbn := hsm (u 8).toNat (by omega)
    rw [sg_86_31 (hb := hb) (hqx3 := gd), e11, if_pos (by rw [jI_le (by omega) (by omega) (by omega) (by omega)]; omega), sp_47 (zStk_r10 hb) x1 (by omega) (by decide)]
    simp (disch := first | assumption | omega) only [zk_l, zk_r, Option.toList_some, Option.toList_none, List.cons_append, List.nil_append, zrokB, zrokB0, zrokB1, zrokJ0, zrokJ1, and_true, true_and, and_self, if_true, if_false, b2_0, b2_1, b2_not, ite_self, jI_cl, jm_n, jz_n, i_lit, i_c0, i_c1, Int.toNat_of_nonneg, Int.toNat_natCast, jrow_same, jrow_ne, jrow_jrow, sset_eq, sset_ne]
    rw [sg_86_97 (hb := hb) (hqx3 := gd), jI_add]
    have e : tnR u (J (b + 15 + 1)) (i + 1) = sset T (u (392 + (i : Int))) (T (u (392 + (i : Int))) + smF u own) := by
      rw [← hT, ← hown]
      rfl
    rw [e]
    rfl)
  have z0 : jrow J (b + 15 + 1) (tnR u (J (b + 15 + 1)) 0) = J := jrow_id
  rw [z0] at key
  refine Eq.trans key ?_
  try simp only
  rw [sg_86_2 (hb := hb), e11, if_pos (by rw [jI_le (by omega) (by omega) (by omega) (by omega)]; omega)]
/-- several nights -/
def nights (s : Int → Int) : Nat → Int → Int
  | 0 => s
  | n + 1 => fNight (nights s n)
theorem nights_ok {s : Int → Int} (hK : okK s) (hD : okD D k s) (hk0 : 0 ≤ k) (hk : k ≤ 21500) : ∀ n : Nat, same s (nights s n) ∧ okD (D + n) k (nights s n) := by
  intro n
  induction n with
  | zero => exact ⟨same_refl s, okD_mono hD (by omega) (Int.le_refl _)⟩
  | succ n ih =>
    obtain ⟨h1, h2⟩ := ih
    obtain ⟨h3, h4⟩ := night_ok (okK_same hK h1) h2 hk0 hk
    exact ⟨same_trans h1 h3, okD_mono h4 (by omega) (Int.le_refl _)⟩
/-- one night of the class -/
theorem night_RS {s : Int → Int} (h : CX J b s D k) (hk0 : 0 ≤ k) (hk : k ≤ 21500) (n i : Int) : ∃ J', (∀ Q : zO → zI → Prop, wz W 84 0 [.ref b, .float 0] [] (jm J) (zk Q (fun v I1 => wz W 83 11 [.ref b, .int (jI n), .int (jI i)] (v.toList ++ []) I1 Q)) = wz W 83 2 [.ref b, .int (jI n), .int (jI (i + 1))] [] (jm J') Q) ∧ RS J' b (fNight s) ∧ ∀ r, (r < b ∨ b + 27 ≤ r) → J' r = J r := by
  obtain ⟨J1, r1, s1, fr1⟩ := sp_84 (W := W) h hk
  obtain ⟨hb, hS, hU, hK, hD, hD5, hk5⟩ := h
  obtain ⟨hsa, hD1⟩ := niC_ok hK hD hk0
  obtain ⟨b1, b2, b3, b4, b5, b6, b7, b8, b9, b10, b11, b12⟩ := hK.1
  obtain ⟨l1, l2⟩ := zStk_lo hb
  have hK1 := okK_same hK hsa
  have hU1 : RU J1 5 (niC s (s 4)) := RU_same (RU_fr hU hK (fun r r0 r1 => fr1 r (by omega))) hK hsa
  have hX1 : CX J1 b (niC s (s 4)) D k := ⟨hb, s1, hU1, hK1, hD1, hD5, hk5⟩
  have e6 : niC s (s 4) 6 = s 6 := niC_ne (by omega)
  have e0 : niC s (s 4) 0 = s 0 := niC_ne (by omega)
  have r2 := sp_85 (W := W) hX1 hk0 hk
  unfold fNight
  rw [← e6, ← e0]
  generalize niC s (s 4) = u at *
  obtain ⟨k1, k2, k3, k4, k5, k6, k7, k8, k9, k10, k11, k12⟩ := hK1.1
  obtain ⟨⟨a1, a2, a3, a4, a5, a6⟩, hT, hV, hP, hW, hL, hQ, hN⟩ := id hD1
  obtain ⟨d1, d2, d3, hpl, hq, hc, ho⟩ := s1
  have r3 := sp_86 (W := W) (J := jrow J1 (b + 13 + 1) (heR u (J1 (b + 13 + 1)) (u 6))) hb (RU_fr hU1 hK1 (fun r r0 r1 => jrow_ne (by omega))) hK1 (by rw [jrow_ne (by omega)]; exact d3) a5 a6 (fun i i0 i1 => by rw [jrow_ne (by omega)]; exact hq i i0 i1) (fun i i0 i1 => by
    obtain ⟨x1, x2, x3⟩ := hQ.1 i i0 i1
    obtain ⟨y1, y2, -⟩ := hP _ x1 x2
    rw [jrow_ne (by omega)]
    exact ⟨x1, by omega, (hpl _ x1 x2).1, y1, y2⟩)
  rw [jrow_ne (show b + 15 + 1 ≠ b + 13 + 1 by omega)] at r3
  refine ⟨jrow (jrow (jrow J1 (b + 13 + 1) (heR u (J1 (b + 13 + 1)) (u 6))) (b + 15 + 1) (tnR u (J1 (b + 15 + 1)) (u 8).toNat)) b (sset (J1 b) 1 (u 0 + 1)), fun Q => ?_, ?_, fun r hr => ?_⟩
  · rw [r1]
    simp only [zk_l, zk_r, Option.toList_some, Option.toList_none, List.cons_append, List.nil_append, zrokB, zrokB0, zrokB1, zrokJ0, zrokJ1, and_true, true_and, and_self, if_true, if_false, b2_0, b2_1, b2_not, ite_self]
    rw [sg_83_11 (hb := hb), r2]
    simp only [zk_l, zk_r, Option.toList_some, Option.toList_none, List.cons_append, List.nil_append, zrokB, zrokB0, zrokB1, zrokJ0, zrokJ1, and_true, true_and, and_self, if_true, if_false, b2_0, b2_1, b2_not, ite_self]
    rw [sg_83_15 (hb := hb), r3]
    simp only [zk_l, zk_r, Option.toList_some, Option.toList_none, List.cons_append, List.nil_append, zrokB, zrokB0, zrokB1, zrokJ0, zrokJ1, and_true, true_and, and_self, if_true, if_false, b2_0, b2_1, b2_not, ite_self]
    rw [sg_83_19 (hb := hb)]
    simp (disch := first | assumption | omega) only [d1, Int.add_zero, jI_nat, jI_add, jI_sub, jI_mul, jI_neg, jI_lt, jI_le, jI_eq, jI_lt0, jI_0lt, jI_le0, jI_0le, jI_eq0, jI_in, jI_dv, i_mod, jI_cl, jm_n, jz_n, i_lit, i_c0, i_c1, Int.toNat_of_nonneg, Int.toNat_natCast, jrow_same, jrow_ne, jrow_jrow, sset_eq, sset_ne]
  · have hne : ∀ i j, 0 ≤ i → i < j → j < (((u 8).toNat : Nat) : Int) → u (392 + i) ≠ u (392 + j) := fun i j i0 ij j1 => hQ.2.1 i j i0 ij (by omega)
    obtain ⟨ta, tb⟩ := tnR_at (f := J1 (b + 15 + 1)) hne (u 8).toNat (Nat.le_refl _)
    refine ⟨?_, ?_, ?_, fun p p0 p1 => ?_, fun i i0 i1 => ?_, fun c c0 c1 => ?_, fun o o0 o1 => ?_⟩
    · simp (disch := first | assumption | omega) only [jI_cl, jm_n, jz_n, i_lit, i_c0, i_c1, Int.toNat_of_nonneg, Int.toNat_natCast, jrow_same, jrow_ne, jrow_jrow, sset_eq, sset_ne]
    · simp (disch := first | assumption | omega) only [jI_cl, jm_n, jz_n, i_lit, i_c0, i_c1, Int.toNat_of_nonneg, Int.toNat_natCast, jrow_same, jrow_ne, jrow_jrow, sset_eq, sset_ne]
      rw [niP_ne (by omega)]
      exact d2
    · simp (disch := first | assumption | omega) only [jI_cl, jm_n, jz_n, i_lit, i_c0, i_c1, Int.toNat_of_nonneg, Int.toNat_natCast, jrow_same, jrow_ne, jrow_jrow, sset_eq, sset_ne]
      rw [niP_ne (by omega)]
      exact d3
    · simp (disch := first | assumption | omega) only [jI_cl, jm_n, jz_n, i_lit, i_c0, i_c1, Int.toNat_of_nonneg, Int.toNat_natCast, jrow_same, jrow_ne, jrow_jrow, sset_eq, sset_ne]
      rw [sset_ne (by omega), niP_ne (by omega)] at p1
      obtain ⟨f1, f2, f3, f4, f5, f6, f7, f8⟩ := hpl p p0 p1
      rw [niP_ne (j := 72 + 7 * p) (by omega), niP_ne (j := 72 + 7 * p + 1) (by omega), niP_ne (j := 72 + 7 * p + 2) (by omega), niP_ne (j := 72 + 7 * p + 3) (by omega), niP_ne (j := 72 + 7 * p + 6) (by omega), niP_h p0 p1, niP_t p0 p1]
      refine ⟨f1, f2, f3, f4, f5, f6, ?_, ?_⟩
      · unfold heR
        by_cases c : u (72 + 7 * p + 2) ≤ 1
        · rw [if_pos ⟨p0, p1, c⟩, if_pos c]
        · rw [if_neg (fun h => c h.2.2), if_neg c, f7]
      · by_cases c : u (72 + 7 * p + 2) = 0
        · obtain ⟨i, i0, i1, hi⟩ := hQ.2.2 p p0 p1 c
          have := ta i.toNat (by omega)
          rw [Int.toNat_of_nonneg i0, hi, f8] at this
          rw [if_pos c]
          exact this
        · rw [if_neg c, ← f8]
          refine tb p (fun i hi h9 => ?_)
          obtain ⟨x1, x2, x3⟩ := hQ.1 i (by omega) (by omega)
          rw [h9] at x3
          exact c x3
    · simp (disch := first | assumption | omega) only [jI_cl, jm_n, jz_n, i_lit, i_c0, i_c1, Int.toNat_of_nonneg, Int.toNat_natCast, jrow_same, jrow_ne, jrow_jrow, sset_eq, sset_ne]
      rw [sset_ne (by omega), niP_ne (by omega)] at i1
      rw [niP_ne (by omega)]
      exact hq i i0 i1
    · simp (disch := first | assumption | omega) only [jI_cl, jm_n, jz_n, i_lit, i_c0, i_c1, Int.toNat_of_nonneg, Int.toNat_natCast, jrow_same, jrow_ne, jrow_jrow, sset_eq, sset_ne]
      rw [sset_ne (by omega), niP_ne (by omega)] at c1
      rw [niP_ne (by omega), niP_ne (by omega), niP_ne (by omega)]
      exact hc c c0 c1
    · simp (disch := first | assumption | omega) only [jI_cl, jm_n, jz_n, i_lit, i_c0, i_c1, Int.toNat_of_nonneg, Int.toNat_natCast, jrow_same, jrow_ne, jrow_jrow, sset_eq, sset_ne]
      rw [sset_ne (by omega), niP_ne (by omega)] at o1
      rw [niP_ne (by omega)]
      exact ho o o0 o1
  · rw [jrow_ne (by omega), jrow_ne (by omega), jrow_ne (by omega)]
    exact fr1 r hr
theorem sp_83 (hk0 : 0 ≤ k) (hk : k ≤ 21500) {n : Nat} (hn : n ≤ 1000) {s : Int → Int} : ∀ (m : Nat) (J : zJ), m ≤ n → CX J b (nights s (n - m)) (D + (n - m : Nat)) k → D + n ≤ 500 → ∃ J', (∀ Q : zO → zI → Prop, wz W 83 2 [.ref b, .int (jI n), .int (jI (n - m : Nat))] [] (jm J) Q = Q oV (jm J')) ∧ RS J' b (nights s n) ∧ ∀ r, (r < b ∨ b + 27 ≤ r) → J' r = J r := by
  intro m
  induction m with
  | zero =>
    intro J hm h hD
    obtain ⟨hb, hS, -⟩ := h
    rw [Nat.sub_zero] at hS ⊢
    refine ⟨J, fun Q => ?_, hS, fun r _ => rfl⟩
    rw [sg_83_2 (hb := hb), if_pos (by rw [jI_le (by omega) (by omega) (by omega) (by omega)]; omega)]
  | succ m ih =>
    intro J hm h hD
    obtain ⟨J1, r1, s1, fr1⟩ := night_RS (W := W) h hk0 hk n ((n - (m + 1) : Nat) : Int)
    obtain ⟨hb, hS, hU, hK, hDD, hD5, hk5⟩ := h
    obtain ⟨l1, l2⟩ := zStk_lo hb
    obtain ⟨hsa, hD1⟩ := night_ok hK hDD hk0 hk
    have e : n - m = (n - (m + 1)) + 1 := by omega
    have hU1 : RU J1 5 (nights s (n - m)) := by
      rw [e]
      exact RU_same (RU_fr hU hK (fun r r0 r1 => fr1 r (by omega))) hK hsa
    have hX : CX J1 b (nights s (n - m)) (D + (n - m : Nat)) k := by
      refine ⟨hb, ?_, hU1, ?_, ?_, by omega, hk5⟩
      · rw [e]; exact s1
      · rw [e]; exact okK_same hK hsa
      · rw [e]; exact okD_mono hD1 (by omega) (Int.le_refl _)
    obtain ⟨J2, r2, s2, fr2⟩ := ih J1 (by omega) hX hD
    refine ⟨J2, fun Q => ?_, s2, fun r hr => (fr2 r hr).trans (fr1 r hr)⟩
    rw [sg_83_2 (hb := hb), if_neg (by rw [jI_le (by omega) (by omega) (by omega) (by omega)]; omega), r1]
    have e2 : ((n - (m + 1) : Nat) : Int) + 1 = ((n - m : Nat) : Int) := by omega
    rw [e2]
    exact r2 Q
/-- passNights -/
theorem sp_83n {s : Int → Int} (h : CX J b s D k) (hk0 : 0 ≤ k) (hk : k ≤ 21500) {n : Nat} (hn : n ≤ 1000) (hD : D + n ≤ 500) : ∃ J', (∀ Q : zO → zI → Prop, wz W 83 0 [.ref b, .int (jI n), .float 0] [] (jm J) Q = Q oV (jm J')) ∧ RS J' b (nights s n) ∧ ∀ r, (r < b ∨ b + 27 ≤ r) → J' r = J r := by
  have hb := h.1
  obtain ⟨J', r1, s1, fr1⟩ := sp_83 (W := W) (b := b) (D := D) hk0 hk hn (s := s) n J (Nat.le_refl n) (by rw [Nat.sub_self]; exact ⟨h.1, h.2.1, h.2.2.1, h.2.2.2.1, okD_mono h.2.2.2.2.1 (by omega) (Int.le_refl _), by omega, h.2.2.2.2.2.2⟩) hD
  refine ⟨J', fun Q => ?_, s1, fr1⟩
  rw [sg_83_0 (hb := hb)]
  rw [Nat.sub_self] at r1
  exact r1 Q
end
