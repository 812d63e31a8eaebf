/-! ===== the class's stock: storing, bringing out, moving, finishing ===== -/
section
variable {W : zW} {J : zJ} {Q : zO → zI → Prop} {b : Nat} {s : Int → Int} {D k : Int}
theorem CX_lv (h : CX J b s D k) {p : Int} (p0 : 0 ≤ p) (p1 : p < s 6) (hp : s (72 + 7 * p + 2) = 0) : ∃ f, (∀ Q : zO → zI → Prop, wz W 65 0 [.ref b, .int (jI p), .float 0, .float 0, .float 0] [] (jm J) Q = Q oV (jm (jrow (jrow J (b + 17 + 1) f) b (sset (J b) 11 (s 8 - 1))))) ∧ ∀ i, 0 ≤ i → i < s 8 - 1 → f i = fLv s p (392 + i) := by
  obtain ⟨hb, hS, hU, hK, ⟨⟨a1, a2, a3, a4, a5, a6⟩, hT, hV, hP, hW, hL, hQ, hN⟩, -, -⟩ := h
  obtain ⟨d1, d2, d3, hp', hq, hc, ho⟩ := hS
  exact sp_65 hb (by omega) (by omega) d3 a5 a6 hq (fun i i0 i1 => by have := hQ.1 i i0 i1; omega) (hQ.2.2 p p0 p1 hp) hQ.2.1
set_option maxHeartbeats 2000000 in
theorem sp_66 (h : CX J b s D k) {p c cell : Int} (p0 : 0 ≤ p) (p1 : p < s 6) (hp : s (72 + 7 * p + 2) = 0) (c0 : 0 ≤ c) (c1 : c < s 4) (l0 : 0 ≤ cell) (l1 : cell < 24) : ∃ J', (∀ Q : zO → zI → Prop, wz W 66 0 [.ref b, .int (jI p), .int (jI c), .int (jI cell)] [] (jm J) Q = Q oV (jm J')) ∧ RS J' b (fStore s p c cell) ∧ ∀ r, (r < b ∨ b + 27 ≤ r) → J' r = J r := by
  obtain ⟨f, hf, hfl⟩ := CX_lv (W := W) h p0 p1 hp
  obtain ⟨hb, hS, hU, hK, ⟨⟨a1, a2, a3, a4, a5, a6⟩, hT, hV, hP, hW, hL, hQ, hN⟩, -, -⟩ := h
  obtain ⟨b1, b2, b3, b4, b5, b6, b7, b8, b9, b10, b11, b12⟩ := hK.1
  obtain ⟨d1, d2, d3, hpl, hq, hc, ho⟩ := hS
  refine ⟨jrow (jrow (jrow (jrow (jrow (jrow J (b + 17 + 1) f) b (sset (J b) 11 (s 8 - 1))) (b + 3 + 1) (sset (J (b + 3 + 1)) p 1)) (b + 5 + 1) (sset (J (b + 5 + 1)) p c)) (b + 7 + 1) (sset (J (b + 7 + 1)) p cell)) (b + 23 + 1) (sset (J (b + 23 + 1)) c (J (b + 23 + 1) c + 1)), fun Q => ?_, ?_, ?_⟩
  · rw [sg_66_0 (hb := hb), hf]
    simp (disch := first | assumption | omega) only [zk_l, zk_r, Option.toList_some, Option.toList_none, List.cons_append, List.nil_append, zrokB, zrokB0, zrokB1, zrokJ0, zrokJ1, and_true, true_and, and_self, if_true, if_false, b2_0, b2_1, b2_not, ite_self, jI_cl, jm_n, jz_n, i_lit, i_c0, i_c1, Int.toNat_of_nonneg, Int.toNat_natCast, jrow_same, jrow_ne, jrow_jrow, sset_eq, sset_ne]
    rw [sg_66_5 (hb := hb), sp_46 (zStk_r4 hb) p0 (by omega) (by decide)]
    simp (disch := first | assumption | omega) only [zk_l, zk_r, Option.toList_some, Option.toList_none, List.cons_append, List.nil_append, zrokB, zrokB0, zrokB1, zrokJ0, zrokJ1, and_true, true_and, and_self, if_true, if_false, b2_0, b2_1, b2_not, ite_self, jI_cl, jm_n, jz_n, i_lit, i_c0, i_c1, Int.toNat_of_nonneg, Int.toNat_natCast, jrow_same, jrow_ne, jrow_jrow, sset_eq, sset_ne]
    rw [sg_66_14 (hb := hb), sp_46 (zStk_r5 hb) p0 (by omega) (by decide)]
    simp (disch := first | assumption | omega) only [zk_l, zk_r, Option.toList_some, Option.toList_none, List.cons_append, List.nil_append, zrokB, zrokB0, zrokB1, zrokJ0, zrokJ1, and_true, true_and, and_self, if_true, if_false, b2_0, b2_1, b2_not, ite_self, jI_cl, jm_n, jz_n, i_lit, i_c0, i_c1, Int.toNat_of_nonneg, Int.toNat_natCast, jrow_same, jrow_ne, jrow_jrow, sset_eq, sset_ne]
    rw [sg_66_23 (hb := hb), sp_46 (zStk_r6 hb) p0 (by omega) (by decide)]
    simp (disch := first | assumption | omega) only [zk_l, zk_r, Option.toList_some, Option.toList_none, List.cons_append, List.nil_append, zrokB, zrokB0, zrokB1, zrokJ0, zrokJ1, and_true, true_and, and_self, if_true, if_false, b2_0, b2_1, b2_not, ite_self, jI_cl, jm_n, jz_n, i_lit, i_c0, i_c1, Int.toNat_of_nonneg, Int.toNat_natCast, jrow_same, jrow_ne, jrow_jrow, sset_eq, sset_ne]
    rw [sg_66_32 (hb := hb), sp_47 (zStk_r15 hb) c0 (by omega) (by decide)]
    simp (disch := first | assumption | omega) only [zk_l, zk_r, Option.toList_some, Option.toList_none, List.cons_append, List.nil_append, zrokB, zrokB0, zrokB1, zrokJ0, zrokJ1, and_true, true_and, and_self, if_true, if_false, b2_0, b2_1, b2_not, ite_self, jI_cl, jm_n, jz_n, i_lit, i_c0, i_c1, Int.toNat_of_nonneg, Int.toNat_natCast, jrow_same, jrow_ne, jrow_jrow, sset_eq, sset_ne]
    rw [sg_66_41 (hb := hb)]
  · have hl : ∀ j, j ≠ 8 ∧ (j < 392 ∨ 400 ≤ j) → fLv s p j = s j := fun j hj => fLv_ne a6 hj
    have hl8 : fLv s p 8 = s 8 - 1 := fLv_8
    have ht : ∀ j, j ≠ 8 ∧ (j < 392 ∨ 400 ≤ j) ∧ j ≠ 400 + 24 * c + cell ∧ j ≠ 72 + 7 * p + 3 ∧ j ≠ 72 + 7 * p + 2 ∧ j ≠ 12 + 8 * c + 5 → fStore s p c cell j = s j := by
      intro j hj
      unfold fStore fOpen fPut
      simp (disch := first | assumption | omega) only [sset_ne]
      exact hl j (by omega)
    have t8 : fStore s p c cell 8 = s 8 - 1 := by unfold fStore fOpen fPut; simp (disch := first | assumption | omega) only [sset_ne]; exact hl8
    have tq : ∀ i, 0 ≤ i → i < s 8 - 1 → fStore s p c cell (392 + i) = fLv s p (392 + i) := fun i i0 i1 => by unfold fStore fOpen fPut; simp (disch := first | assumption | omega) only [sset_ne]
    have t2 : fStore s p c cell (72 + 7 * p + 2) = 1 := by unfold fStore fOpen fPut; simp (disch := first | assumption | omega) only [sset_ne, sset_eq]
    have t3 : fStore s p c cell (72 + 7 * p + 3) = 24 * c + cell := by unfold fStore fOpen fPut; simp (disch := first | assumption | omega) only [sset_ne, sset_eq]
    have to : fStore s p c cell (12 + 8 * c + 5) = s (12 + 8 * c + 5) + 1 := by
      unfold fStore fOpen fPut
      simp (disch := first | assumption | omega) only [sset_ne, sset_eq]
      rw [hl _ (by omega)]
    generalize fStore s p c cell = t at *
    refine ⟨?_, ?_, ?_, fun q q0 q1 => ?_, fun i i0 i1 => ?_, fun d e0 e1 => ?_, fun o o0 o1 => ?_⟩
    · simp (disch := first | assumption | omega) only [jI_cl, jm_n, jz_n, i_lit, i_c0, i_c1, Int.toNat_of_nonneg, Int.toNat_natCast, jrow_same, jrow_ne, jrow_jrow, sset_eq, sset_ne]
      rw [ht 0 (by omega)]
      exact d1
    · simp (disch := first | assumption | omega) only [jI_cl, jm_n, jz_n, i_lit, i_c0, i_c1, Int.toNat_of_nonneg, Int.toNat_natCast, jrow_same, jrow_ne, jrow_jrow, sset_eq, sset_ne]
      rw [ht 6 (by omega)]
      exact d2
    · simp (disch := first | assumption | omega) only [jI_cl, jm_n, jz_n, i_lit, i_c0, i_c1, Int.toNat_of_nonneg, Int.toNat_natCast, jrow_same, jrow_ne, jrow_jrow, sset_eq, sset_ne]
      exact t8.symm
    · simp (disch := first | assumption | omega) only [jI_cl, jm_n, jz_n, i_lit, i_c0, i_c1, Int.toNat_of_nonneg, Int.toNat_natCast, jrow_same, jrow_ne, jrow_jrow, sset_eq, sset_ne]
      rw [ht 6 (by omega)] at q1
      obtain ⟨f1, f2, f3, f4, f5, f6, f7, f8⟩ := hpl q q0 q1
      by_cases e : q = p
      · subst e
        simp (disch := first | assumption | omega) only [sset_eq]
        rw [t2, t3, ht (72 + 7 * q) (by omega), ht (72 + 7 * q + 1) (by omega), ht (72 + 7 * q + 4) (by omega), ht (72 + 7 * q + 5) (by omega)]
        refine ⟨f1, rfl, ?_, ?_, f5, fun h9 => by omega, f7, f8⟩
        · unfold chOf; rw [if_neg (by omega)]; omega
        · unfold ceOf; rw [if_neg (by omega)]; omega
      · simp (disch := first | assumption | omega) only [sset_ne]
        rw [ht (72 + 7 * q) (by omega), ht (72 + 7 * q + 1) (by omega), ht (72 + 7 * q + 2) (by omega), ht (72 + 7 * q + 3) (by omega), ht (72 + 7 * q + 4) (by omega), ht (72 + 7 * q + 5) (by omega), ht (72 + 7 * q + 6) (by omega)]
        exact ⟨f1, f2, f3, f4, f5, f6, f7, f8⟩
    · simp (disch := first | assumption | omega) only [jI_cl, jm_n, jz_n, i_lit, i_c0, i_c1, Int.toNat_of_nonneg, Int.toNat_natCast, jrow_same, jrow_ne, jrow_jrow, sset_eq, sset_ne]
      rw [t8] at i1
      rw [tq i i0 i1]
      exact hfl i i0 i1
    · simp (disch := first | assumption | omega) only [jI_cl, jm_n, jz_n, i_lit, i_c0, i_c1, Int.toNat_of_nonneg, Int.toNat_natCast, jrow_same, jrow_ne, jrow_jrow, sset_eq, sset_ne]
      rw [ht 4 (by omega)] at e1
      obtain ⟨f1, f2, f3⟩ := hc d e0 e1
      rw [ht (12 + 8 * d + 3) (by omega), ht (12 + 8 * d + 4) (by omega)]
      refine ⟨f1, f2, ?_⟩
      by_cases e : d = c
      · subst e
        rw [sset_eq rfl, to, f3]
      · rw [sset_ne e, ht (12 + 8 * d + 5) (by omega), f3]
    · simp (disch := first | assumption | omega) only [jI_cl, jm_n, jz_n, i_lit, i_c0, i_c1, Int.toNat_of_nonneg, Int.toNat_natCast, jrow_same, jrow_ne, jrow_jrow, sset_eq, sset_ne]
      rw [ht 7 (by omega)] at o1
      rw [ht (352 + 4 * o + 3) (by omega)]
      exact ho o o0 o1
  · intro r hr
    simp (disch := first | assumption | omega) only [jrow_ne]
/-- takeOut -/
def tkJ (J : zJ) (b : Nat) (p c : Int) : zJ := jrow (jrow (jrow J (b + 23 + 1) (sset (J (b + 23 + 1)) c (J (b + 23 + 1) c + 1))) (b + 5 + 1) (sset (J (b + 5 + 1)) p (-1))) (b + 7 + 1) (sset (J (b + 7 + 1)) p (-1))
theorem sp_67 (hb : zStk b) {p c : Int} (p0 : 0 ≤ p) (p1 : p < 40) (hc : J (b + 5 + 1) p = c) (c0 : 0 ≤ c) (c1 : c < 3) : wz W 67 0 [.ref b, .int (jI p)] [] (jm J) Q = Q oV (jm (tkJ J b p c)) := by
  rw [sg_67_0 (hb := hb), sp_45 (zStk_r5 hb) p0 (by omega) (by decide), hc]
  simp (disch := first | assumption | omega) only [zk_l, zk_r, Option.toList_some, Option.toList_none, List.cons_append, List.nil_append, zrokB, zrokB0, zrokB1, zrokJ0, zrokJ1, and_true, true_and, and_self, if_true, if_false, b2_0, b2_1, b2_not, ite_self, jI_cl, jm_n, jz_n, i_lit, i_c0, i_c1, Int.toNat_of_nonneg, Int.toNat_natCast, jrow_same, jrow_ne, jrow_jrow, sset_eq, sset_ne]
  rw [sg_67_12 (hb := hb) (hqt0 := zStk_r15 hb), sp_47 (zStk_r15 hb) c0 (by omega) (by decide)]
  simp (disch := first | assumption | omega) only [zk_l, zk_r, Option.toList_some, Option.toList_none, List.cons_append, List.nil_append, zrokB, zrokB0, zrokB1, zrokJ0, zrokJ1, and_true, true_and, and_self, if_true, if_false, b2_0, b2_1, b2_not, ite_self, jI_cl, jm_n, jz_n, i_lit, i_c0, i_c1, Int.toNat_of_nonneg, Int.toNat_natCast, jrow_same, jrow_ne, jrow_jrow, sset_eq, sset_ne]
  rw [sg_67_16 (hb := hb), sp_46 (zStk_r5 hb) p0 (by omega) (by decide)]
  simp (disch := first | assumption | omega) only [zk_l, zk_r, Option.toList_some, Option.toList_none, List.cons_append, List.nil_append, zrokB, zrokB0, zrokB1, zrokJ0, zrokJ1, and_true, true_and, and_self, if_true, if_false, b2_0, b2_1, b2_not, ite_self, jI_cl, jm_n, jz_n, i_lit, i_c0, i_c1, Int.toNat_of_nonneg, Int.toNat_natCast, jrow_same, jrow_ne, jrow_jrow, sset_eq, sset_ne]
  rw [sg_67_25 (hb := hb), sp_46 (zStk_r6 hb) p0 (by omega) (by decide)]
  simp (disch := first | assumption | omega) only [zk_l, zk_r, Option.toList_some, Option.toList_none, List.cons_append, List.nil_append, zrokB, zrokB0, zrokB1, zrokJ0, zrokJ1, and_true, true_and, and_self, if_true, if_false, b2_0, b2_1, b2_not, ite_self, jI_cl, jm_n, jz_n, i_lit, i_c0, i_c1, Int.toNat_of_nonneg, Int.toNat_natCast, jrow_same, jrow_ne, jrow_jrow, sset_eq, sset_ne]
  rw [sg_67_34 (hb := hb)]
  rfl
/-- takeOut, state 0, queueUp: what retrieve does -/
theorem retr_RS (h : CX J b s D k) {p : Int} (p0 : 0 ≤ p) (p1 : p < s 6) (hp : s (72 + 7 * p + 2) = 1) (h8 : s 8 < 8) : RS (jrow (jrow (jrow (tkJ J b p (s (72 + 7 * p + 3) / 24)) (b + 3 + 1) (sset (J (b + 3 + 1)) p 0)) (b + 17 + 1) (sset (J (b + 17 + 1)) (s 8) p)) b (sset (J b) 11 (s 8 + 1))) b (fRetr s p) := by
  obtain ⟨hb, hS, hU, hK, ⟨⟨a1, a2, a3, a4, a5, a6⟩, hT, hV, hP, hW, hL, hQ, hN⟩, -, -⟩ := h
  obtain ⟨b1, b2, b3, b4, b5, b6, b7, b8, b9, b10, b11, b12⟩ := hK.1
  obtain ⟨d1, d2, d3, hpl, hq, hc, ho⟩ := hS
  obtain ⟨w0, w1, w2, w3⟩ := (hW p p0 p1).1 hp
  have ho3 : ∀ c, 0 ≤ c → c < 3 → fOpen s c (72 + 7 * p + 3) = s (72 + 7 * p + 3) := fun c c0 c1 => by unfold fOpen; exact sset_ne (by omega)
  have hw := ho3 (s (72 + 7 * p + 3) / 24) (by omega) (by omega)
  generalize hx : s (72 + 7 * p + 3) = x at *
  have ht : ∀ j, j ≠ 8 ∧ j ≠ 392 + s 8 ∧ j ≠ 400 + x ∧ j ≠ 72 + 7 * p + 3 ∧ j ≠ 72 + 7 * p + 2 ∧ j ≠ 12 + 8 * (x / 24) + 5 → fRetr s p j = s j := by
    intro j hj
    unfold fRetr fEnq fTake
    rw [hx, hw]
    unfold fOpen
    simp (disch := first | assumption | omega) only [sset_ne]
  have t8 : fRetr s p 8 = s 8 + 1 := by
    unfold fRetr fEnq fTake
    rw [hx, hw]
    unfold fOpen
    simp (disch := first | assumption | omega) only [sset_ne, sset_eq]
  have tq : fRetr s p (392 + s 8) = p := by
    unfold fRetr fEnq fTake
    rw [hx, hw]
    unfold fOpen
    simp (disch := first | assumption | omega) only [sset_ne, sset_eq]
  have t2 : fRetr s p (72 + 7 * p + 2) = 0 := by
    unfold fRetr fEnq fTake
    rw [hx, hw]
    unfold fOpen
    simp (disch := first | assumption | omega) only [sset_ne, sset_eq]
  have t3 : fRetr s p (72 + 7 * p + 3) = -1 := by
    unfold fRetr fEnq fTake
    rw [hx, hw]
    unfold fOpen
    simp (disch := first | assumption | omega) only [sset_ne, sset_eq]
  have to : fRetr s p (12 + 8 * (x / 24) + 5) = s (12 + 8 * (x / 24) + 5) + 1 := by
    unfold fRetr fEnq fTake
    rw [hx, hw]
    unfold fOpen
    simp (disch := first | assumption | omega) only [sset_ne, sset_eq]
  generalize fRetr s p = t at *
  unfold tkJ
  refine ⟨?_, ?_, ?_, fun q q0 q1 => ?_, fun i i0 i1 => ?_, fun d e0 e1 => ?_, fun o o0 o1 => ?_⟩
  · simp (disch := first | assumption | omega) only [jI_cl, jm_n, jz_n, i_lit, i_c0, i_c1, Int.toNat_of_nonneg, Int.toNat_natCast, jrow_same, jrow_ne, jrow_jrow, sset_eq, sset_ne]
    rw [ht 0 (by omega)]
    exact d1
  · simp (disch := first | assumption | omega) only [jI_cl, jm_n, jz_n, i_lit, i_c0, i_c1, Int.toNat_of_nonneg, Int.toNat_natCast, jrow_same, jrow_ne, jrow_jrow, sset_eq, sset_ne]
    rw [ht 6 (by omega)]
    exact d2
  · simp (disch := first | assumption | omega) only [jI_cl, jm_n, jz_n, i_lit, i_c0, i_c1, Int.toNat_of_nonneg, Int.toNat_natCast, jrow_same, jrow_ne, jrow_jrow, sset_eq, sset_ne]
    exact t8.symm
  · simp (disch := first | assumption | omega) only [jI_cl, jm_n, jz_n, i_lit, i_c0, i_c1, Int.toNat_of_nonneg, Int.toNat_natCast, jrow_same, jrow_ne, jrow_jrow, sset_eq, sset_ne]
    rw [ht 6 (by omega)] at q1
    obtain ⟨f1, f2, f3, f4, f5, f6, f7, f8⟩ := hpl q q0 q1
    by_cases e : q = p
    · subst e
      simp (disch := first | assumption | omega) only [sset_eq]
      rw [t2, t3, ht (72 + 7 * q) (by omega), ht (72 + 7 * q + 1) (by omega), ht (72 + 7 * q + 4) (by omega), ht (72 + 7 * q + 5) (by omega)]
      exact ⟨f1, rfl, rfl, rfl, f5, fun h9 => by omega, f7, f8⟩
    · simp (disch := first | assumption | omega) only [sset_ne]
      rw [ht (72 + 7 * q) (by omega), ht (72 + 7 * q + 1) (by omega), ht (72 + 7 * q + 2) (by omega), ht (72 + 7 * q + 3) (by omega), ht (72 + 7 * q + 4) (by omega), ht (72 + 7 * q + 5) (by omega), ht (72 + 7 * q + 6) (by omega)]
      exact ⟨f1, f2, f3, f4, f5, f6, f7, f8⟩
  · simp (disch := first | assumption | omega) only [jI_cl, jm_n, jz_n, i_lit, i_c0, i_c1, Int.toNat_of_nonneg, Int.toNat_natCast, jrow_same, jrow_ne, jrow_jrow, sset_eq, sset_ne]
    rw [t8] at i1
    by_cases e : i = s 8
    · subst e
      rw [sset_eq rfl, tq]
    · rw [sset_ne e, ht (392 + i) (by omega)]
      exact hq i i0 (by omega)
  · simp (disch := first | assumption | omega) only [jI_cl, jm_n, jz_n, i_lit, i_c0, i_c1, Int.toNat_of_nonneg, Int.toNat_natCast, jrow_same, jrow_ne, jrow_jrow, sset_eq, sset_ne]
    rw [ht 4 (by omega)] at e1
    obtain ⟨f1, f2, f3⟩ := hc d e0 e1
    rw [ht (12 + 8 * d + 3) (by omega), ht (12 + 8 * d + 4) (by omega)]
    refine ⟨f1, f2, ?_⟩
    by_cases e : d = x / 24
    · subst e
      rw [sset_eq rfl, to, f3]
    · rw [sset_ne e, ht (12 + 8 * d + 5) (by omega), f3]
  · simp (disch := first | assumption | omega) only [jI_cl, jm_n, jz_n, i_lit, i_c0, i_c1, Int.toNat_of_nonneg, Int.toNat_natCast, jrow_same, jrow_ne, jrow_jrow, sset_eq, sset_ne]
    rw [ht 7 (by omega)] at o1
    rw [ht (352 + 4 * o + 3) (by omega)]
    exact ho o o0 o1
theorem sp_68 (hb : zStk b) {p v : Int} (p0 : 0 ≤ p) (p1 : p < 40) : wz W 68 0 [.ref b, .int (jI p), .int (jI v)] [] (jm J) Q = Q oV (jm (jrow J (b + 7 + 1) (sset (J (b + 7 + 1)) p v))) := by
  rw [sg_68_0 (hb := hb), sp_46 (zStk_r6 hb) p0 (by omega) (by decide)]
  simp (disch := first | assumption | omega) only [zk_l, zk_r, Option.toList_some, Option.toList_none, List.cons_append, List.nil_append, zrokB, zrokB0, zrokB1, zrokJ0, zrokJ1, and_true, true_and, and_self, if_true, if_false, b2_0, b2_1, b2_not, ite_self, jI_cl, jm_n, jz_n, i_lit, i_c0, i_c1, Int.toNat_of_nonneg, Int.toNat_natCast, jrow_same, jrow_ne, jrow_jrow, sset_eq, sset_ne]
  rw [sg_68_9 (hb := hb)]
theorem shift_RS (h : CX J b s D k) {p c cell : Int} (p0 : 0 ≤ p) (p1 : p < s 6) (hp : s (72 + 7 * p + 2) = 1) (hcx : s (72 + 7 * p + 3) / 24 = c) (l0 : 0 ≤ cell) (l1 : cell < 24) : RS (jrow J (b + 7 + 1) (sset (J (b + 7 + 1)) p cell)) b (fShift s p c cell) := by
  obtain ⟨hb, hS, hU, hK, ⟨⟨a1, a2, a3, a4, a5, a6⟩, hT, hV, hP, hW, hL, hQ, hN⟩, -, -⟩ := h
  obtain ⟨b1, b2, b3, b4, b5, b6, b7, b8, b9, b10, b11, b12⟩ := hK.1
  obtain ⟨d1, d2, d3, hpl, hq, hc, ho⟩ := hS
  obtain ⟨w0, w1, w2, w3⟩ := (hW p p0 p1).1 hp
  generalize hx : s (72 + 7 * p + 3) = x at *
  have ht : ∀ j, j ≠ 400 + x ∧ j ≠ 400 + 24 * c + cell ∧ j ≠ 72 + 7 * p + 3 ∧ j ≠ 72 + 7 * p + 2 → fShift s p c cell j = s j := by
    intro j hj
    unfold fShift fPut fTake
    rw [hx]
    simp (disch := first | assumption | omega) only [sset_ne]
  have t2 : fShift s p c cell (72 + 7 * p + 2) = 1 := by unfold fShift fPut; simp (disch := first | assumption | omega) only [sset_ne, sset_eq]
  have t3 : fShift s p c cell (72 + 7 * p + 3) = 24 * c + cell := by unfold fShift fPut; simp (disch := first | assumption | omega) only [sset_ne, sset_eq]
  generalize fShift s p c cell = t at *
  refine ⟨?_, ?_, ?_, fun q q0 q1 => ?_, fun i i0 i1 => ?_, fun d e0 e1 => ?_, fun o o0 o1 => ?_⟩
  · simp (disch := first | assumption | omega) only [jI_cl, jm_n, jz_n, i_lit, i_c0, i_c1, Int.toNat_of_nonneg, Int.toNat_natCast, jrow_same, jrow_ne, jrow_jrow, sset_eq, sset_ne]
    rw [ht 0 (by omega)]
    exact d1
  · simp (disch := first | assumption | omega) only [jI_cl, jm_n, jz_n, i_lit, i_c0, i_c1, Int.toNat_of_nonneg, Int.toNat_natCast, jrow_same, jrow_ne, jrow_jrow, sset_eq, sset_ne]
    rw [ht 6 (by omega)]
    exact d2
  · simp (disch := first | assumption | omega) only [jI_cl, jm_n, jz_n, i_lit, i_c0, i_c1, Int.toNat_of_nonneg, Int.toNat_natCast, jrow_same, jrow_ne, jrow_jrow, sset_eq, sset_ne]
    rw [ht 8 (by omega)]
    exact d3
  · simp (disch := first | assumption | omega) only [jI_cl, jm_n, jz_n, i_lit, i_c0, i_c1, Int.toNat_of_nonneg, Int.toNat_natCast, jrow_same, jrow_ne, jrow_jrow, sset_eq, sset_ne]
    rw [ht 6 (by omega)] at q1
    obtain ⟨f1, f2, f3, f4, f5, f6, f7, f8⟩ := hpl q q0 q1
    by_cases e : q = p
    · subst e
      simp (disch := first | assumption | omega) only [sset_eq]
      rw [t2, t3, ht (72 + 7 * q) (by omega), ht (72 + 7 * q + 1) (by omega), ht (72 + 7 * q + 4) (by omega), ht (72 + 7 * q + 5) (by omega)]
      rw [hx] at f3
      refine ⟨f1, by rw [f2, hp], ?_, ?_, f5, fun h9 => by omega, f7, f8⟩
      · rw [f3]
        unfold chOf
        rw [if_neg (by omega), if_neg (by omega)]
        omega
      · unfold ceOf; rw [if_neg (by omega)]; omega
    · simp (disch := first | assumption | omega) only [sset_ne]
      rw [ht (72 + 7 * q) (by omega), ht (72 + 7 * q + 1) (by omega), ht (72 + 7 * q + 2) (by omega), ht (72 + 7 * q + 3) (by omega), ht (72 + 7 * q + 4) (by omega), ht (72 + 7 * q + 5) (by omega), ht (72 + 7 * q + 6) (by omega)]
      exact ⟨f1, f2, f3, f4, f5, f6, f7, f8⟩
  · simp (disch := first | assumption | omega) only [jI_cl, jm_n, jz_n, i_lit, i_c0, i_c1, Int.toNat_of_nonneg, Int.toNat_natCast, jrow_same, jrow_ne, jrow_jrow, sset_eq, sset_ne]
    rw [ht 8 (by omega)] at i1
    rw [ht (392 + i) (by omega)]
    exact hq i i0 i1
  · simp (disch := first | assumption | omega) only [jI_cl, jm_n, jz_n, i_lit, i_c0, i_c1, Int.toNat_of_nonneg, Int.toNat_natCast, jrow_same, jrow_ne, jrow_jrow, sset_eq, sset_ne]
    rw [ht 4 (by omega)] at e1
    rw [ht (12 + 8 * d + 3) (by omega), ht (12 + 8 * d + 4) (by omega), ht (12 + 8 * d + 5) (by omega)]
    exact hc d e0 e1
  · simp (disch := first | assumption | omega) only [jI_cl, jm_n, jz_n, i_lit, i_c0, i_c1, Int.toNat_of_nonneg, Int.toNat_natCast, jrow_same, jrow_ne, jrow_jrow, sset_eq, sset_ne]
    rw [ht 7 (by omega)] at o1
    rw [ht (352 + 4 * o + 3) (by omega)]
    exact ho o o0 o1
set_option maxHeartbeats 2000000 in
/-- finish -/
theorem sp_69w (h : CX J b s D k) {p how : Int} (p0 : 0 ≤ p) (p1 : p < s 6) (hp : s (72 + 7 * p + 2) = 0) (hh : how = 2 ∨ how = 3) : ∃ J', (∀ Q : zO → zI → Prop, wz W 69 0 [.ref b, .int (jI p), .int (jI how)] [] (jm J) Q = Q oV (jm J')) ∧ RS J' b (fShipW s p how) ∧ ∀ r, (r < b ∨ b + 27 ≤ r) → J' r = J r := by
  obtain ⟨f, hf, hfl⟩ := CX_lv (W := W) h p0 p1 hp
  obtain ⟨hb, hS, hU, hK, ⟨⟨a1, a2, a3, a4, a5, a6⟩, hT, hV, hP, hW, hL, hQ, hN⟩, -, -⟩ := h
  obtain ⟨b1, b2, b3, b4, b5, b6, b7, b8, b9, b10, b11, b12⟩ := hK.1
  obtain ⟨d1, d2, d3, hpl, hq, hc, ho⟩ := hS
  refine ⟨jrow (jrow (jrow (jrow J (b + 17 + 1) f) b (sset (J b) 11 (s 8 - 1))) (b + 3 + 1) (sset (J (b + 3 + 1)) p how)) (b + 11 + 1) (sset (J (b + 11 + 1)) p (s 0)), fun Q => ?_, ?_, ?_⟩
  · rw [sg_69_0 (hb := hb), sp_45 (zStk_r4 hb) p0 (by omega) (by decide), (hpl p p0 p1).2.1, hp]
    simp only [zk_l, zk_r, Option.toList_some, Option.toList_none, List.cons_append, List.nil_append, zrokB, zrokB0, zrokB1, zrokJ0, zrokJ1, and_true, true_and, and_self, if_true, if_false, b2_0, b2_1, b2_not, ite_self]
    rw [sg_69_8 (hb := hb), if_neg (by decide), hf]
    simp (disch := first | assumption | omega) only [zk_l, zk_r, Option.toList_some, Option.toList_none, List.cons_append, List.nil_append, zrokB, zrokB0, zrokB1, zrokJ0, zrokJ1, and_true, true_and, and_self, if_true, if_false, b2_0, b2_1, b2_not, ite_self, jI_cl, jm_n, jz_n, i_lit, i_c0, i_c1, Int.toNat_of_nonneg, Int.toNat_natCast, jrow_same, jrow_ne, jrow_jrow, sset_eq, sset_ne]
    rw [sg_69_25 (hb := hb), sp_46 (zStk_r4 hb) p0 (by omega) (by decide)]
    simp (disch := first | assumption | omega) only [zk_l, zk_r, Option.toList_some, Option.toList_none, List.cons_append, List.nil_append, zrokB, zrokB0, zrokB1, zrokJ0, zrokJ1, and_true, true_and, and_self, if_true, if_false, b2_0, b2_1, b2_not, ite_self, jI_cl, jm_n, jz_n, i_lit, i_c0, i_c1, Int.toNat_of_nonneg, Int.toNat_natCast, jrow_same, jrow_ne, jrow_jrow, sset_eq, sset_ne]
    rw [sg_69_34 (hb := hb)]
    simp (disch := first | assumption | omega) only [d1, zk_l, zk_r, Option.toList_some, Option.toList_none, List.cons_append, List.nil_append, zrokB, zrokB0, zrokB1, zrokJ0, zrokJ1, and_true, true_and, and_self, if_true, if_false, b2_0, b2_1, b2_not, ite_self, jI_cl, jm_n, jz_n, i_lit, i_c0, i_c1, Int.toNat_of_nonneg, Int.toNat_natCast, jrow_same, jrow_ne, jrow_jrow, sset_eq, sset_ne]
    rw [sp_46 (zStk_r8 hb) p0 (by omega) (by decide)]
    simp (disch := first | assumption | omega) only [zk_l, zk_r, Option.toList_some, Option.toList_none, List.cons_append, List.nil_append, zrokB, zrokB0, zrokB1, zrokJ0, zrokJ1, and_true, true_and, and_self, if_true, if_false, b2_0, b2_1, b2_not, ite_self, jI_cl, jm_n, jz_n, i_lit, i_c0, i_c1, Int.toNat_of_nonneg, Int.toNat_natCast, jrow_same, jrow_ne, jrow_jrow, sset_eq, sset_ne]
    rw [sg_69_46 (hb := hb)]
  · have hl : ∀ j, j ≠ 8 ∧ (j < 392 ∨ 400 ≤ j) → fLv s p j = s j := fun j hj => fLv_ne a6 hj
    have hl8 : fLv s p 8 = s 8 - 1 := fLv_8
    have hi : (if how = 2 then (9 : Int) else 10) = how + 7 := by rcases hh with h | h <;> rw [h] <;> rfl
    have ht : ∀ j, j ≠ 8 ∧ (j < 392 ∨ 400 ≤ j) ∧ j ≠ 72 + 7 * p + 2 ∧ j ≠ 72 + 7 * p + 6 ∧ j ≠ how + 7 → fShipW s p how j = s j := by
      intro j hj
      unfold fShipW fGoes
      rw [hi]
      simp (disch := first | assumption | omega) only [sset_ne]
      exact hl j (by omega)
    have t8 : fShipW s p how 8 = s 8 - 1 := by unfold fShipW fGoes; rw [hi]; simp (disch := first | assumption | omega) only [sset_ne]; exact hl8
    have tq : ∀ i, 0 ≤ i → i < s 8 - 1 → fShipW s p how (392 + i) = fLv s p (392 + i) := fun i i0 i1 => by unfold fShipW fGoes; rw [hi]; simp (disch := first | assumption | omega) only [sset_ne]
    have t2 : fShipW s p how (72 + 7 * p + 2) = how := by unfold fShipW fGoes; rw [hi]; simp (disch := first | assumption | omega) only [sset_ne, sset_eq]
    have t6 : fShipW s p how (72 + 7 * p + 6) = s 0 := by
      unfold fShipW fGoes
      rw [hi]
      simp (disch := first | assumption | omega) only [sset_ne, sset_eq]
      exact hl _ (by omega)
    generalize fShipW s p how = t at *
    refine ⟨?_, ?_, ?_, fun q q0 q1 => ?_, fun i i0 i1 => ?_, fun d e0 e1 => ?_, fun o o0 o1 => ?_⟩
    · simp (disch := first | assumption | omega) only [jI_cl, jm_n, jz_n, i_lit, i_c0, i_c1, Int.toNat_of_nonneg, Int.toNat_natCast, jrow_same, jrow_ne, jrow_jrow, sset_eq, sset_ne]
      rw [ht 0 (by omega)]
      exact d1
    · simp (disch := first | assumption | omega) only [jI_cl, jm_n, jz_n, i_lit, i_c0, i_c1, Int.toNat_of_nonneg, Int.toNat_natCast, jrow_same, jrow_ne, jrow_jrow, sset_eq, sset_ne]
      rw [ht 6 (by omega)]
      exact d2
    · simp (disch := first | assumption | omega) only [jI_cl, jm_n, jz_n, i_lit, i_c0, i_c1, Int.toNat_of_nonneg, Int.toNat_natCast, jrow_same, jrow_ne, jrow_jrow, sset_eq, sset_ne]
      exact t8.symm
    · simp (disch := first | assumption | omega) only [jI_cl, jm_n, jz_n, i_lit, i_c0, i_c1, Int.toNat_of_nonneg, Int.toNat_natCast, jrow_same, jrow_ne, jrow_jrow, sset_eq, sset_ne]
      rw [ht 6 (by omega)] at q1
      obtain ⟨f1, f2, f3, f4, f5, f6, f7, f8⟩ := hpl q q0 q1
      by_cases e : q = p
      · subst e
        simp (disch := first | assumption | omega) only [sset_eq]
        rw [t2, t6, ht (72 + 7 * q) (by omega), ht (72 + 7 * q + 3) (by omega), ht (72 + 7 * q + 1) (by omega), ht (72 + 7 * q + 4) (by omega), ht (72 + 7 * q + 5) (by omega)]
        exact ⟨f1, rfl, f3, f4, f5, fun _ => rfl, f7, f8⟩
      · simp (disch := first | assumption | omega) only [sset_ne]
        rw [ht (72 + 7 * q) (by omega), ht (72 + 7 * q + 1) (by omega), ht (72 + 7 * q + 2) (by omega), ht (72 + 7 * q + 3) (by omega), ht (72 + 7 * q + 4) (by omega), ht (72 + 7 * q + 5) (by omega), ht (72 + 7 * q + 6) (by omega)]
        exact ⟨f1, f2, f3, f4, f5, f6, f7, f8⟩
    · simp (disch := first | assumption | omega) only [jI_cl, jm_n, jz_n, i_lit, i_c0, i_c1, Int.toNat_of_nonneg, Int.toNat_natCast, jrow_same, jrow_ne, jrow_jrow, sset_eq, sset_ne]
      rw [t8] at i1
      rw [tq i i0 i1]
      exact hfl i i0 i1
    · simp (disch := first | assumption | omega) only [jI_cl, jm_n, jz_n, i_lit, i_c0, i_c1, Int.toNat_of_nonneg, Int.toNat_natCast, jrow_same, jrow_ne, jrow_jrow, sset_eq, sset_ne]
      rw [ht 4 (by omega)] at e1
      rw [ht (12 + 8 * d + 3) (by omega), ht (12 + 8 * d + 4) (by omega), ht (12 + 8 * d + 5) (by omega)]
      exact hc d e0 e1
    · simp (disch := first | assumption | omega) only [jI_cl, jm_n, jz_n, i_lit, i_c0, i_c1, Int.toNat_of_nonneg, Int.toNat_natCast, jrow_same, jrow_ne, jrow_jrow, sset_eq, sset_ne]
      rw [ht 7 (by omega)] at o1
      rw [ht (352 + 4 * o + 3) (by omega)]
      exact ho o o0 o1
  · intro r hr
    simp (disch := first | assumption | omega) only [jrow_ne]
set_option maxHeartbeats 2000000 in
theorem sp_69s (h : CX J b s D k) {p how : Int} (p0 : 0 ≤ p) (p1 : p < s 6) (hp : s (72 + 7 * p + 2) = 1) (hh : how = 2 ∨ how = 3) : ∃ J', (∀ Q : zO → zI → Prop, wz W 69 0 [.ref b, .int (jI p), .int (jI how)] [] (jm J) Q = Q oV (jm J')) ∧ RS J' b (fShipS s p how) ∧ ∀ r, (r < b ∨ b + 27 ≤ r) → J' r = J r := by
  obtain ⟨hb, hS, hU, hK, ⟨⟨a1, a2, a3, a4, a5, a6⟩, hT, hV, hP, hW, hL, hQ, hN⟩, -, -⟩ := h
  obtain ⟨b1, b2, b3, b4, b5, b6, b7, b8, b9, b10, b11, b12⟩ := hK.1
  obtain ⟨d1, d2, d3, hpl, hq, hc, ho⟩ := hS
  obtain ⟨w0, w1, w2, w3⟩ := (hW p p0 p1).1 hp
  have ho3 : ∀ c, 0 ≤ c → c < 3 → fOpen s c (72 + 7 * p + 3) = s (72 + 7 * p + 3) := fun c c0 c1 => by unfold fOpen; exact sset_ne (by omega)
  have hw := ho3 (s (72 + 7 * p + 3) / 24) (by omega) (by omega)
  have hi : (if how = 2 then (9 : Int) else 10) = how + 7 := by rcases hh with h | h <;> rw [h] <;> rfl
  generalize hx : s (72 + 7 * p + 3) = x at *
  have hch : J (b + 5 + 1) p = x / 24 := by
    rw [(hpl p p0 p1).2.2.1, hx]
    unfold chOf
    rw [if_neg (by omega)]
  refine ⟨jrow (jrow (tkJ J b p (x / 24)) (b + 3 + 1) (sset (J (b + 3 + 1)) p how)) (b + 11 + 1) (sset (J (b + 11 + 1)) p (s 0)), fun Q => ?_, ?_, ?_⟩
  · have tk3 : tkJ J b p (x / 24) (b + 3 + 1) = J (b + 3 + 1) := by unfold tkJ; simp (disch := first | assumption | omega) only [jrow_ne]
    have tk11 : tkJ J b p (x / 24) (b + 11 + 1) = J (b + 11 + 1) := by unfold tkJ; simp (disch := first | assumption | omega) only [jrow_ne]
    have tkb : tkJ J b p (x / 24) b = J b := by unfold tkJ; simp (disch := first | assumption | omega) only [jrow_ne]
    rw [sg_69_0 (hb := hb), sp_45 (zStk_r4 hb) p0 (by omega) (by decide), (hpl p p0 p1).2.1, hp]
    simp only [zk_l, zk_r, Option.toList_some, Option.toList_none, List.cons_append, List.nil_append, zrokB, zrokB0, zrokB1, zrokJ0, zrokJ1, and_true, true_and, and_self, if_true, if_false, b2_0, b2_1, b2_not, ite_self]
    rw [sg_69_8 (hb := hb), if_pos rfl, sp_67 hb p0 (by omega) hch (by omega) (by omega)]
    simp (disch := first | assumption | omega) only [zk_l, zk_r, Option.toList_some, Option.toList_none, List.cons_append, List.nil_append, zrokB, zrokB0, zrokB1, zrokJ0, zrokJ1, and_true, true_and, and_self, if_true, if_false, b2_0, b2_1, b2_not, ite_self, jI_cl, jm_n, jz_n, i_lit, i_c0, i_c1, Int.toNat_of_nonneg, Int.toNat_natCast, jrow_same, jrow_ne, jrow_jrow, sset_eq, sset_ne]
    rw [sg_69_17 (hb := hb), sg_69_25 (hb := hb), sp_46 (zStk_r4 hb) p0 (by omega) (by decide)]
    simp (disch := first | assumption | omega) only [tk3, zk_l, zk_r, Option.toList_some, Option.toList_none, List.cons_append, List.nil_append, zrokB, zrokB0, zrokB1, zrokJ0, zrokJ1, and_true, true_and, and_self, if_true, if_false, b2_0, b2_1, b2_not, ite_self, jI_cl, jm_n, jz_n, i_lit, i_c0, i_c1, Int.toNat_of_nonneg, Int.toNat_natCast, jrow_same, jrow_ne, jrow_jrow, sset_eq, sset_ne]
    rw [sg_69_34 (hb := hb)]
    simp (disch := first | assumption | omega) only [tkb, d1, zk_l, zk_r, Option.toList_some, Option.toList_none, List.cons_append, List.nil_append, zrokB, zrokB0, zrokB1, zrokJ0, zrokJ1, and_true, true_and, and_self, if_true, if_false, b2_0, b2_1, b2_not, ite_self, jI_cl, jm_n, jz_n, i_lit, i_c0, i_c1, Int.toNat_of_nonneg, Int.toNat_natCast, jrow_same, jrow_ne, jrow_jrow, sset_eq, sset_ne]
    rw [sp_46 (zStk_r8 hb) p0 (by omega) (by decide)]
    simp (disch := first | assumption | omega) only [tk11, zk_l, zk_r, Option.toList_some, Option.toList_none, List.cons_append, List.nil_append, zrokB, zrokB0, zrokB1, zrokJ0, zrokJ1, and_true, true_and, and_self, if_true, if_false, b2_0, b2_1, b2_not, ite_self, jI_cl, jm_n, jz_n, i_lit, i_c0, i_c1, Int.toNat_of_nonneg, Int.toNat_natCast, jrow_same, jrow_ne, jrow_jrow, sset_eq, sset_ne]
    rw [sg_69_46 (hb := hb)]
  · have ht : ∀ j, j ≠ 400 + x ∧ j ≠ 72 + 7 * p + 3 ∧ j ≠ 72 + 7 * p + 2 ∧ j ≠ 72 + 7 * p + 6 ∧ j ≠ 12 + 8 * (x / 24) + 5 ∧ j ≠ how + 7 → fShipS s p how j = s j := by
      intro j hj
      unfold fShipS fGoes fTake
      rw [hx, hw, hi]
      unfold fOpen
      simp (disch := first | assumption | omega) only [sset_ne]
    have t2 : fShipS s p how (72 + 7 * p + 2) = how := by
      unfold fShipS fGoes
      rw [hi]
      simp (disch := first | assumption | omega) only [sset_ne, sset_eq]
    have t3 : fShipS s p how (72 + 7 * p + 3) = -1 := by
      unfold fShipS fGoes fTake
      rw [hi]
      simp (disch := first | assumption | omega) only [sset_ne, sset_eq]
    have t6 : fShipS s p how (72 + 7 * p + 6) = s 0 := by
      unfold fShipS fGoes fTake
      rw [hx, hw, hi]
      unfold fOpen
      simp (disch := first | assumption | omega) only [sset_ne, sset_eq]
    have to : fShipS s p how (12 + 8 * (x / 24) + 5) = s (12 + 8 * (x / 24) + 5) + 1 := by
      unfold fShipS fGoes fTake
      rw [hx, hw, hi]
      unfold fOpen
      simp (disch := first | assumption | omega) only [sset_ne, sset_eq]
    generalize fShipS s p how = t at *
    unfold tkJ
    refine ⟨?_, ?_, ?_, fun q q0 q1 => ?_, fun i i0 i1 => ?_, fun d e0 e1 => ?_, fun o o0 o1 => ?_⟩
    · simp (disch := first | assumption | omega) only [jI_cl, jm_n, jz_n, i_lit, i_c0, i_c1, Int.toNat_of_nonneg, Int.toNat_natCast, jrow_same, jrow_ne, jrow_jrow, sset_eq, sset_ne]
      rw [ht 0 (by omega)]
      exact d1
    · simp (disch := first | assumption | omega) only [jI_cl, jm_n, jz_n, i_lit, i_c0, i_c1, Int.toNat_of_nonneg, Int.toNat_natCast, jrow_same, jrow_ne, jrow_jrow, sset_eq, sset_ne]
      rw [ht 6 (by omega)]
      exact d2
    · simp (disch := first | assumption | omega) only [jI_cl, jm_n, jz_n, i_lit, i_c0, i_c1, Int.toNat_of_nonneg, Int.toNat_natCast, jrow_same, jrow_ne, jrow_jrow, sset_eq, sset_ne]
      rw [ht 8 (by omega)]
      exact d3
    · simp (disch := first | assumption | omega) only [jI_cl, jm_n, jz_n, i_lit, i_c0, i_c1, Int.toNat_of_nonneg, Int.toNat_natCast, jrow_same, jrow_ne, jrow_jrow, sset_eq, sset_ne]
      rw [ht 6 (by omega)] at q1
      obtain ⟨f1, f2, f3, f4, f5, f6, f7, f8⟩ := hpl q q0 q1
      by_cases e : q = p
      · subst e
        simp (disch := first | assumption | omega) only [sset_eq]
        rw [t2, t3, t6, ht (72 + 7 * q) (by omega), ht (72 + 7 * q + 1) (by omega), ht (72 + 7 * q + 4) (by omega), ht (72 + 7 * q + 5) (by omega)]
        exact ⟨f1, rfl, rfl, rfl, f5, fun _ => rfl, f7, f8⟩
      · simp (disch := first | assumption | omega) only [sset_ne]
        rw [ht (72 + 7 * q) (by omega), ht (72 + 7 * q + 1) (by omega), ht (72 + 7 * q + 2) (by omega), ht (72 + 7 * q + 3) (by omega), ht (72 + 7 * q + 4) (by omega), ht (72 + 7 * q + 5) (by omega), ht (72 + 7 * q + 6) (by omega)]
        exact ⟨f1, f2, f3, f4, f5, f6, f7, f8⟩
    · simp (disch := first | assumption | omega) only [jI_cl, jm_n, jz_n, i_lit, i_c0, i_c1, Int.toNat_of_nonneg, Int.toNat_natCast, jrow_same, jrow_ne, jrow_jrow, sset_eq, sset_ne]
      rw [ht 8 (by omega)] at i1
      rw [ht (392 + i) (by omega)]
      exact hq i i0 i1
    · simp (disch := first | assumption | omega) only [jI_cl, jm_n, jz_n, i_lit, i_c0, i_c1, Int.toNat_of_nonneg, Int.toNat_natCast, jrow_same, jrow_ne, jrow_jrow, sset_eq, sset_ne]
      rw [ht 4 (by omega)] at e1
      obtain ⟨f1, f2, f3⟩ := hc d e0 e1
      rw [ht (12 + 8 * d + 3) (by omega), ht (12 + 8 * d + 4) (by omega)]
      refine ⟨f1, f2, ?_⟩
      by_cases e : d = x / 24
      · subst e
        rw [sset_eq rfl, to, f3]
      · rw [sset_ne e, ht (12 + 8 * d + 5) (by omega), f3]
    · simp (disch := first | assumption | omega) only [jI_cl, jm_n, jz_n, i_lit, i_c0, i_c1, Int.toNat_of_nonneg, Int.toNat_natCast, jrow_same, jrow_ne, jrow_jrow, sset_eq, sset_ne]
      rw [ht 7 (by omega)] at o1
      rw [ht (352 + 4 * o + 3) (by omega)]
      exact ho o o0 o1
  · intro r hr
    unfold tkJ
    simp (disch := first | assumption | omega) only [jrow_ne]
end
