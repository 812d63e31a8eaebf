/-! ===== the class's stock: what it tells ===== -/
def CX (J : zJ) (b : Nat) (s : Int → Int) (D k : Int) : Prop := zStk b ∧ RS J b s ∧ RU J 5 s ∧ okK s ∧ okD D k s ∧ D ≤ 500 ∧ k ≤ 30000
/-- the stock b's pallet p -/
theorem RS_p {J : zJ} {b : Nat} {s : Int → Int} (h : RS J b s) {p : Int} (p0 : 0 ≤ p) (p1 : p < s 6) : J (b + 1 + 1) p = s (72 + 7 * p) ∧ J (b + 3 + 1) p = s (72 + 7 * p + 2) ∧ J (b + 5 + 1) p = chOf (s (72 + 7 * p + 3)) ∧ J (b + 7 + 1) p = ceOf (s (72 + 7 * p + 3)) ∧ J (b + 9 + 1) p = s (72 + 7 * p + 1) ∧ (1 < s (72 + 7 * p + 2) → J (b + 11 + 1) p = s (72 + 7 * p + 6)) ∧ J (b + 13 + 1) p = s (72 + 7 * p + 4) ∧ J (b + 15 + 1) p = s (72 + 7 * p + 5) := h.2.2.2.1 p p0 p1
/-- where a pallet may be -/
theorem okW_or {s : Int → Int} (hW : okW s) (hK : okK s) {p : Int} (p0 : 0 ≤ p) (p1 : p < s 6) : s (72 + 7 * p + 3) = -1 ∨ (0 ≤ s (72 + 7 * p + 3) ∧ s (72 + 7 * p + 3) / 24 < s 4 ∧ s (72 + 7 * p + 3) % 24 < nC s (s (72 + 7 * p + 3) / 24) ∧ s (400 + s (72 + 7 * p + 3)) = p ∧ s (72 + 7 * p + 2) = 1) := by
  obtain ⟨h1, h2⟩ := hW p p0 p1
  by_cases q : s (72 + 7 * p + 2) = 1
  · obtain ⟨a, b, c, d⟩ := h1 q
    obtain ⟨e, -⟩ := nC_eq hK (c := s (72 + 7 * p + 3) / 24) (by omega) b
    exact Or.inr ⟨a, b, by rw [e]; exact c, d, q⟩
  · exact Or.inl (h2 q)
theorem ch_eq {x c : Int} (hx : x = -1 ∨ 0 ≤ x) (hc : 0 ≤ c) : chOf x = c ↔ x / 24 = c := by
  unfold chOf
  split <;> omega
theorem ce_eq {x : Int} (h : 0 ≤ x) : ceOf x = x % 24 := by
  unfold ceOf
  rw [if_neg (by omega)]
/-- the goods g of the setup 5 -/
theorem RU_g {J : zJ} {s : Int → Int} (h : RU J 5 s) (hK : okK s) {g : Int} (g0 : 0 ≤ g) (g1 : g < s 5) : g < 6 ∧ zGds (5 + 13 + g.toNat) ∧ J (5 + 13 + g.toNat) 0 = g ∧ J (5 + 13 + g.toNat) 1 = s (36 + 6 * g) ∧ J (5 + 13 + g.toNat) 2 = s (36 + 6 * g + 1) ∧ J (5 + 13 + g.toNat) 3 = s (36 + 6 * g + 2) ∧ J (5 + 13 + g.toNat) 4 = s (36 + 6 * g + 3) ∧ J (5 + 13 + g.toNat) 5 = s (36 + 6 * g + 4) ∧ J (5 + 13 + g.toNat) 6 = s (36 + 6 * g + 5) := by
  obtain ⟨b1, b2, b3, b4, b5, b6, b7, b8, b9, b10, b11, b12⟩ := hK.1
  obtain ⟨-, -, -, -, -, -, hn, hg, -, -⟩ := h
  have g6 : g < 6 := by omega
  obtain ⟨e1, e2, e3, e4, e5, e6⟩ := hg g g0 g1
  exact ⟨g6, zStp_g zStp_5 (by omega), hn g g0 g6, e1, e2, e3, e4, e5, e6⟩
/-- present; spoiled -/
def thr (s : Int → Int) (p : Int) : Bool := decide (s (72 + 7 * p + 2) ≤ 1)
def spo (s : Int → Int) (p : Int) : Bool := decide (s 1 < s (72 + 7 * p + 4)) || decide (s 2 < s (72 + 7 * p + 5)) || decide (s (36 + 6 * s (72 + 7 * p) + 3) < (if 1 < s (72 + 7 * p + 2) then s (72 + 7 * p + 6) else s 0) - s (72 + 7 * p + 1))
/-- free; safe -/
def frB (s : Int → Int) (c : Int) : Int → Bool := fun k => decide (s (400 + 24 * c + k) = -1)
def saB (s : Int → Int) (c g : Int) : Int → Bool := fun k => frB s c k && sfB s c k g (-1)
def wayC (s : Int → Int) (c cell : Int) : Int := wl (nb (gC s c)) (nC s c) (drs s c) (fun k => frB s c k || decide (k = cell)) cell
section
variable {W : zW} {J : zJ} {Q : zO → zI → Prop} {b : Nat} {s : Int → Int} {D k : Int}
theorem sp_10s (hU : RU J 5 s) (hK : okK s) {g o : Int} (g0 : 0 ≤ g) (g1 : g < s 5) (o0 : 0 ≤ o) (o1 : o < s 5) : wz W 10 0 [.ref (5 + 13 + g.toNat), .ref (5 + 13 + o.toNat)] [] (jm J) Q = Q (oB (bad s g o)) (jm J) := by
  obtain ⟨a0, a1, a2, a3, a4, a5, a6, a7, a8⟩ := RU_g hU hK g0 g1
  obtain ⟨c0, c1, c2, c3, c4, c5, c6, c7, c8⟩ := RU_g hU hK o0 o1
  obtain ⟨d1, d2, d3, d4, d5, d6, d7, d8, d9, d10, d11⟩ := hK.2.2.1 g g0 g1
  obtain ⟨e1, e2, e3, e4, e5, e6, e7, e8, e9, e10, e11⟩ := hK.2.2.1 o o0 o1
  rw [sp_10 a1 c1 (by omega) (by omega) (by omega) (by omega) (by omega) (by omega) (by omega) (by omega) (by omega) (by omega) (by omega) (by omega), a2, a7, a8, c2, c7, c8]
  rfl
theorem sp_9s (hU : RU J 5 s) (hK : okK s) {g o : Int} (g0 : 0 ≤ g) (g1 : g < s 5) (o0 : 0 ≤ o) (o1 : o < s 5) : wz W 9 0 [.ref (5 + 13 + g.toNat), .ref (5 + 13 + o.toNat)] [] (jm J) Q = Q (oB (tnt s g o)) (jm J) := by
  obtain ⟨a0, a1, a2, a3, a4, a5, a6, a7, a8⟩ := RU_g hU hK g0 g1
  obtain ⟨c0, c1, c2, c3, c4, c5, c6, c7, c8⟩ := RU_g hU hK o0 o1
  obtain ⟨d1, d2, d3, d4, d5, d6, d7, d8, d9, d10, d11⟩ := hK.2.2.1 g g0 g1
  obtain ⟨e1, e2, e3, e4, e5, e6, e7, e8, e9, e10, e11⟩ := hK.2.2.1 o o0 o1
  rw [sp_9 a1 c1 (by omega) (by omega) (by omega) (by omega) (by omega) (by omega) (by omega) (by omega), a2, a7, c2, c8]
  rfl
theorem sp_70 (h : CX J b s D k) {p : Int} (p0 : 0 ≤ p) (p1 : p < s 6) : wz W 70 0 [.ref b, .int (jI p)] [] (jm J) Q = Q (oR (5 + 13 + (s (72 + 7 * p)).toNat)) (jm J) := by
  obtain ⟨hb, hS, hU, hK, ⟨hA, hT, hV, hP, hW, hL, hQ, hN⟩, hD, hk⟩ := h
  obtain ⟨a1, a2, a3, a4, a5, a6⟩ := hA
  obtain ⟨b1, b2, b3, b4, b5, b6, b7, b8, b9, b10, b11, b12⟩ := hK.1
  obtain ⟨e1, -⟩ := RS_p hS p0 p1
  obtain ⟨q1, q2, -⟩ := hP p p0 p1
  have hg : zGds (5 + 13 + (s (72 + 7 * p)).toNat) := zStp_g zStp_5 (by omega)
  rw [sg_70_0 (hb := hb), sp_45 (zStk_r3 hb) p0 (by omega) (by decide), e1]
  simp only [zk_l, zk_r, Option.toList_some, Option.toList_none, List.cons_append, List.nil_append, zrokB, zrokB0, zrokB1, zrokJ0, zrokJ1, and_true, true_and, and_self, if_true, if_false, b2_0, b2_1, b2_not, ite_self]
  rw [sg_70_12 (hb := hb) (hqt0 := zStp_5), sp_52 zStp_5 q1 (by omega)]
  simp only [zk_l, zk_r, Option.toList_some, Option.toList_none, List.cons_append, List.nil_append, zrokB, zrokB0, zrokB1, zrokJ0, zrokJ1, and_true, true_and, and_self, if_true, if_false, b2_0, b2_1, b2_not, ite_self]
  rw [sg_70_15 (hb := hb) (hqt0 := hg)]
theorem sp_71 (h : CX J b s D k) {p : Int} (p0 : 0 ≤ p) (p1 : p < s 6) : wz W 71 0 [.ref b, .int (jI p), .float 0] [] (jm J) Q = Q (oB (thr s p)) (jm J) := by
  obtain ⟨hb, hS, hU, hK, ⟨hA, hT, hV, hP, hW, hL, hQ, hN⟩, hD, hk⟩ := h
  obtain ⟨a1, a2, a3, a4, a5, a6⟩ := hA
  obtain ⟨e1, e2, -⟩ := RS_p hS p0 p1
  obtain ⟨q1, q2, q3, q4, q5, q6, -⟩ := hP p p0 p1
  rw [sg_71_0 (hb := hb), sp_45 (zStk_r4 hb) p0 (by omega) (by decide), e2]
  simp only [zk_l, zk_r, Option.toList_some, Option.toList_none, List.cons_append, List.nil_append, zrokB, zrokB0, zrokB1, zrokJ0, zrokJ1, and_true, true_and, and_self, if_true, if_false, b2_0, b2_1, b2_not, ite_self]
  rw [sg_71_8 (hb := hb)]
  simp (disch := first | assumption | omega) only [sg_71_18, sg_71_23, Int.add_zero, jI_nat, jI_add, jI_sub, jI_mul, jI_neg, jI_lt, jI_le, jI_eq, jI_lt0, jI_0lt, jI_le0, jI_0le, jI_eq0, jI_in, jI_dv, i_mod, zk_l, zk_r, Option.toList_some, Option.toList_none, List.cons_append, List.nil_append, zrokB, zrokB0, zrokB1, zrokJ0, zrokJ1, and_true, true_and, and_self, if_true, if_false, b2_0, b2_1, b2_not, ite_self]
  unfold thr
  by_cases f : s (72 + 7 * p + 2) = 0
  · rw [if_pos f, decide_eq_true (by omega)]; rfl
  · rw [if_neg f]
    by_cases f2 : s (72 + 7 * p + 2) = 1
    · rw [if_pos f2, decide_eq_true (by omega)]; rfl
    · rw [if_neg f2, decide_eq_false (by omega)]; rfl
theorem sp_73 (h : CX J b s D k) {p : Int} (p0 : 0 ≤ p) (p1 : p < s 6) : wz W 73 0 [.ref b, .int (jI p), .float 0] [] (jm J) Q = Q (oB (spo s p)) (jm J) := by
  have h' := h
  obtain ⟨hb, hS, hU, hK, ⟨hA, hT, hV, hP, hW, hL, hQ, hN⟩, hD, hk⟩ := h
  obtain ⟨a1, a2, a3, a4, a5, a6⟩ := hA
  obtain ⟨b1, b2, b3, b4, b5, b6, b7, b8, b9, b10, b11, b12⟩ := hK.1
  obtain ⟨e1, e2, e3, e4, e5, e6, e7, e8⟩ := RS_p hS p0 p1
  obtain ⟨q1, q2, q3, q4, q5, q6, q7, q8, q9, q10, q11⟩ := hP p p0 p1
  obtain ⟨g0, g1, g2, g3, g4, g5, g6, g7, g8⟩ := RU_g hU hK q1 q2
  obtain ⟨d1, d2, d3, d4, d5, -⟩ := hK.2.2.1 _ q1 q2
  obtain ⟨u0, u3, u6, u12, u13, u14, -⟩ := hU
  have hday := hS.1
  rw [sg_73_0 (hb := hb), sp_71 h' p0 p1]
  simp only [zk_l, zk_r, Option.toList_some, Option.toList_none, List.cons_append, List.nil_append, zrokB, zrokB0, zrokB1, zrokJ0, zrokJ1, and_true, true_and, and_self, if_true, if_false, b2_0, b2_1, b2_not, ite_self]
  rw [sg_73_5 (hb := hb)]
  have go : ∀ t : Int, 0 ≤ t → t ≤ 500 → wz W 73 23 [.ref b, .int (jI p), .float 0] [.int (jI t)] (jm J) Q = Q (oB (decide (s 1 < s (72 + 7 * p + 4)) || decide (s 2 < s (72 + 7 * p + 5)) || decide (s (36 + 6 * s (72 + 7 * p) + 3) < t - s (72 + 7 * p + 1)))) (jm J) := by
    intro t t0 t1
    rw [sg_73_23 (hb := hb), sp_45 (zStk_r9 hb) p0 (by omega) (by decide), e7]
    simp only [zk_l, zk_r, Option.toList_some, Option.toList_none, List.cons_append, List.nil_append, zrokB, zrokB0, zrokB1, zrokJ0, zrokJ1, and_true, true_and, and_self, if_true, if_false, b2_0, b2_1, b2_not, ite_self]
    rw [sg_73_32 (hb := hb), sp_45 (zStk_r10 hb) p0 (by omega) (by decide), e8]
    simp (disch := first | assumption | omega) only [sg_73_81, sg_73_86, u12, zk_l, zk_r, Option.toList_some, Option.toList_none, List.cons_append, List.nil_append, zrokB, zrokB0, zrokB1, zrokJ0, zrokJ1, and_true, true_and, and_self, if_true, if_false, b2_0, b2_1, b2_not, ite_self, Int.add_zero, jI_nat, jI_add, jI_sub, jI_mul, jI_neg, jI_lt, jI_le, jI_eq, jI_lt0, jI_0lt, jI_le0, jI_0le, jI_eq0, jI_in, jI_dv, i_mod, jI_cl, jm_n, jz_n, i_lit, i_c0, i_c1, Int.toNat_of_nonneg, Int.toNat_natCast, jrow_same, jrow_ne, jrow_jrow, sset_eq, sset_ne]
    rw [sg_73_50 (hb := hb), sp_45 (zStk_r7 hb) p0 (by omega) (by decide), e5]
    simp (disch := first | assumption | omega) only [sg_73_81, sg_73_86, u13, zk_l, zk_r, Option.toList_some, Option.toList_none, List.cons_append, List.nil_append, zrokB, zrokB0, zrokB1, zrokJ0, zrokJ1, and_true, true_and, and_self, if_true, if_false, b2_0, b2_1, b2_not, ite_self, Int.add_zero, jI_nat, jI_add, jI_sub, jI_mul, jI_neg, jI_lt, jI_le, jI_eq, jI_lt0, jI_0lt, jI_le0, jI_0le, jI_eq0, jI_in, jI_dv, i_mod, jI_cl, jm_n, jz_n, i_lit, i_c0, i_c1, Int.toNat_of_nonneg, Int.toNat_natCast, jrow_same, jrow_ne, jrow_jrow, sset_eq, sset_ne]
    rw [sg_73_69 (hb := hb), sp_70 h' p0 p1]
    simp (disch := first | assumption | omega) only [zk_l, zk_r, Option.toList_some, Option.toList_none, List.cons_append, List.nil_append, zrokB, zrokB0, zrokB1, zrokJ0, zrokJ1, and_true, true_and, and_self, if_true, if_false, b2_0, b2_1, b2_not, ite_self, Int.add_zero, jI_nat, jI_add, jI_sub, jI_mul, jI_neg, jI_lt, jI_le, jI_eq, jI_lt0, jI_0lt, jI_le0, jI_0le, jI_eq0, jI_in, jI_dv, i_mod, jI_cl, jm_n, jz_n, i_lit, i_c0, i_c1, Int.toNat_of_nonneg, Int.toNat_natCast, jrow_same, jrow_ne, jrow_jrow, sset_eq, sset_ne]
    rw [sg_73_75 (hb := hb) (hqt1 := g1)]
    simp (disch := first | assumption | omega) only [sg_73_81, sg_73_86, g6, zk_l, zk_r, Option.toList_some, Option.toList_none, List.cons_append, List.nil_append, zrokB, zrokB0, zrokB1, zrokJ0, zrokJ1, and_true, true_and, and_self, if_true, if_false, b2_0, b2_1, b2_not, ite_self, Int.add_zero, jI_nat, jI_add, jI_sub, jI_mul, jI_neg, jI_lt, jI_le, jI_eq, jI_lt0, jI_0lt, jI_le0, jI_0le, jI_eq0, jI_in, jI_dv, i_mod, jI_cl, jm_n, jz_n, i_lit, i_c0, i_c1, Int.toNat_of_nonneg, Int.toNat_natCast, jrow_same, jrow_ne, jrow_jrow, sset_eq, sset_ne]
    by_cases f1 : s 1 < s (72 + 7 * p + 4)
    · rw [if_pos f1, decide_eq_true f1]; rfl
    · rw [if_neg f1, decide_eq_false f1]
      by_cases f2 : s 2 < s (72 + 7 * p + 5)
      · rw [if_pos f2, decide_eq_true f2]; rfl
      · rw [if_neg f2, decide_eq_false f2]
        by_cases f3 : t - s (72 + 7 * p + 1) ≤ s (36 + 6 * s (72 + 7 * p) + 3)
        · rw [if_pos f3, decide_eq_false (by omega)]; rfl
        · rw [if_neg f3, decide_eq_true (by omega)]; rfl
  unfold spo thr
  simp only [b2_0, decide_eq_false_iff_not, jm_1, hday]
  by_cases f : s (72 + 7 * p + 2) ≤ 1
  · rw [if_neg (by omega), go _ a1 (by omega), if_neg (by omega)]
  · obtain ⟨r1, r2⟩ := q11 (by omega)
    rw [if_pos f, sp_45 (zStk_r8 hb) p0 (by omega) (by decide), e6 (by omega)]
    simp only [zk_l, zk_r, Option.toList_some, Option.toList_none, List.cons_append, List.nil_append, zrokB, zrokB0, zrokB1, zrokJ0, zrokJ1, and_true, true_and, and_self, if_true, if_false, b2_0, b2_1, b2_not, ite_self]
    rw [go _ r1 (by omega), if_pos (by omega)]
/-- a count over the pallets -/
theorem cnt_step (p : Nat → Bool) (n : Nat) : cntB p (n + 1) = cntB p n + (if p n = true then 1 else 0) := rfl
theorem sp_72 (h : CX J b s D k) {st : Int} (st0 : 0 ≤ st) (st1 : st ≤ 3) : wz W 72 0 [.ref b, .int (jI st), .float 0, .float 0] [] (jm J) Q = Q (oI (cntS s st (s 6).toNat)) (jm J) := by
  obtain ⟨hb, hS, hU, hK, ⟨hA, hT, hV, hP, hW, hL, hQ, hN⟩, hD, hk⟩ := h
  obtain ⟨a1, a2, a3, a4, a5, a6⟩ := hA
  have h2 := hS.2.1
  rw [sg_72_0 (hb := hb)]
  have key := zloop (f := fun i => wz W 72 4 [.ref b, .int (jI st), .int (jI (cntS s st i)), .int (jI i)] [] (jm J) Q) (s 6).toNat (fun i hi => by
    try simp only
    obtain ⟨e1, e2, -⟩ := RS_p hS (p := i) (by omega) (by omega)
    obtain ⟨q1, q2, q3, q4, q5, q6, -⟩ := hP i (by omega) (by omega)
    rw [sg_72_4 (hb := hb)]
    simp (disch := first | assumption | omega) only [h2, zk_l, zk_r, Option.toList_some, Option.toList_none, List.cons_append, List.nil_append, zrokB, zrokB0, zrokB1, zrokJ0, zrokJ1, and_true, true_and, and_self, if_true, if_false, b2_0, b2_1, b2_not, ite_self, Int.add_zero, jI_nat, jI_add, jI_sub, jI_mul, jI_neg, jI_lt, jI_le, jI_eq, jI_lt0, jI_0lt, jI_le0, jI_0le, jI_eq0, jI_in, jI_dv, i_mod, jI_cl, jm_n, jz_n, i_lit, i_c0, i_c1, Int.toNat_of_nonneg, Int.toNat_natCast, jrow_same, jrow_ne, jrow_jrow, sset_eq, sset_ne]
    rw [if_neg (by omega), sp_45 (zStk_r4 hb) (by omega) (by omega) (by decide), e2]
    simp only [zk_l, zk_r, Option.toList_some, Option.toList_none, List.cons_append, List.nil_append, zrokB, zrokB0, zrokB1, zrokJ0, zrokJ1, and_true, true_and, and_self, if_true, if_false, b2_0, b2_1, b2_not, ite_self]
    rw [sg_72_20 (hb := hb)]
    simp (disch := first | assumption | omega) only [sg_72_27, zk_l, zk_r, Option.toList_some, Option.toList_none, List.cons_append, List.nil_append, zrokB, zrokB0, zrokB1, zrokJ0, zrokJ1, and_true, true_and, and_self, if_true, if_false, b2_0, b2_1, b2_not, ite_self, Int.add_zero, jI_nat, jI_add, jI_sub, jI_mul, jI_neg, jI_lt, jI_le, jI_eq, jI_lt0, jI_0lt, jI_le0, jI_0le, jI_eq0, jI_in, jI_dv, i_mod, jI_cl, jm_n, jz_n, i_lit, i_c0, i_c1, Int.toNat_of_nonneg, Int.toNat_natCast, jrow_same, jrow_ne, jrow_jrow, sset_eq, sset_ne]
    unfold cntS
    rw [cnt_step]
    by_cases f : s (72 + 7 * (i : Int) + 2) = st
    · rw [if_pos f, decide_eq_true f, if_pos rfl]; rfl
    · rw [if_neg f, decide_eq_false f, if_neg (by decide)]; rfl)
  refine Eq.trans key ?_
  have hc : cntS s st (s 6).toNat ≤ (s 6).toNat := cntB_le _ _
  rw [sg_72_4 (hb := hb)]
  simp (disch := first | assumption | omega) only [h2, zk_l, zk_r, Option.toList_some, Option.toList_none, List.cons_append, List.nil_append, zrokB, zrokB0, zrokB1, zrokJ0, zrokJ1, and_true, true_and, and_self, if_true, if_false, b2_0, b2_1, b2_not, ite_self, Int.add_zero, jI_nat, jI_add, jI_sub, jI_mul, jI_neg, jI_lt, jI_le, jI_eq, jI_lt0, jI_0lt, jI_le0, jI_0le, jI_eq0, jI_in, jI_dv, i_mod, jI_cl, jm_n, jz_n, i_lit, i_c0, i_c1, Int.toNat_of_nonneg, Int.toNat_natCast, jrow_same, jrow_ne, jrow_jrow, sset_eq, sset_ne]
  rw [if_pos (by omega)]
def cntZ (s : Int → Int) (n : Nat) : Nat := cntB (fun p => thr s p && spo s p) n
theorem sp_74 (h : CX J b s D k) : wz W 74 0 [.ref b, .float 0, .float 0] [] (jm J) Q = Q (oI (cntZ s (s 6).toNat)) (jm J) := by
  have h' := h
  obtain ⟨hb, hS, hU, hK, ⟨hA, hT, hV, hP, hW, hL, hQ, hN⟩, hD, hk⟩ := h
  obtain ⟨a1, a2, a3, a4, a5, a6⟩ := hA
  have h2 := hS.2.1
  rw [sg_74_0 (hb := hb)]
  have key := zloop (f := fun i => wz W 74 4 [.ref b, .int (jI (cntZ s i)), .int (jI i)] [] (jm J) Q) (s 6).toNat (fun i hi => by
    try simp only
    rw [sg_74_4 (hb := hb)]
    simp (disch := first | assumption | omega) only [h2, zk_l, zk_r, Option.toList_some, Option.toList_none, List.cons_append, List.nil_append, zrokB, zrokB0, zrokB1, zrokJ0, zrokJ1, and_true, true_and, and_self, if_true, if_false, b2_0, b2_1, b2_not, ite_self, Int.add_zero, jI_nat, jI_add, jI_sub, jI_mul, jI_neg, jI_lt, jI_le, jI_eq, jI_lt0, jI_0lt, jI_le0, jI_0le, jI_eq0, jI_in, jI_dv, i_mod, jI_cl, jm_n, jz_n, i_lit, i_c0, i_c1, Int.toNat_of_nonneg, Int.toNat_natCast, jrow_same, jrow_ne, jrow_jrow, sset_eq, sset_ne]
    rw [if_neg (by omega), sp_71 h' (by omega) (by omega)]
    simp only [zk_l, zk_r, Option.toList_some, Option.toList_none, List.cons_append, List.nil_append, zrokB, zrokB0, zrokB1, zrokJ0, zrokJ1, and_true, true_and, and_self, if_true, if_false, b2_0, b2_1, b2_not, ite_self]
    rw [sg_74_17 (hb := hb), sp_73 h' (by omega) (by omega)]
    simp only [zk_l, zk_r, Option.toList_some, Option.toList_none, List.cons_append, List.nil_append, zrokB, zrokB0, zrokB1, zrokJ0, zrokJ1, and_true, true_and, and_self, if_true, if_false, b2_0, b2_1, b2_not, ite_self]
    rw [sg_74_25 (hb := hb)]
    simp (disch := first | assumption | omega) only [sg_74_31, zk_l, zk_r, Option.toList_some, Option.toList_none, List.cons_append, List.nil_append, zrokB, zrokB0, zrokB1, zrokJ0, zrokJ1, and_true, true_and, and_self, if_true, if_false, b2_0, b2_1, b2_not, ite_self, Int.add_zero, jI_nat, jI_add, jI_sub, jI_mul, jI_neg, jI_lt, jI_le, jI_eq, jI_lt0, jI_0lt, jI_le0, jI_0le, jI_eq0, jI_in, jI_dv, i_mod, jI_cl, jm_n, jz_n, i_lit, i_c0, i_c1, Int.toNat_of_nonneg, Int.toNat_natCast, jrow_same, jrow_ne, jrow_jrow, sset_eq, sset_ne]
    unfold cntZ
    rw [cnt_step]
    cases thr s i <;> cases spo s i <;> rfl)
  refine Eq.trans key ?_
  rw [sg_74_4 (hb := hb)]
  simp (disch := first | assumption | omega) only [h2, zk_l, zk_r, Option.toList_some, Option.toList_none, List.cons_append, List.nil_append, zrokB, zrokB0, zrokB1, zrokJ0, zrokJ1, and_true, true_and, and_self, if_true, if_false, b2_0, b2_1, b2_not, ite_self, Int.add_zero, jI_nat, jI_add, jI_sub, jI_mul, jI_neg, jI_lt, jI_le, jI_eq, jI_lt0, jI_0lt, jI_le0, jI_0le, jI_eq0, jI_in, jI_dv, i_mod, jI_cl, jm_n, jz_n, i_lit, i_c0, i_c1, Int.toNat_of_nonneg, Int.toNat_natCast, jrow_same, jrow_ne, jrow_jrow, sset_eq, sset_ne]
  rw [if_pos (by omega)]
/-! cells -/
theorem sp_76 (h : CX J b s D k) {c cell : Int} (c0 : 0 ≤ c) (c1 : c < 3) (l0 : 0 ≤ cell) (l1 : cell < 24) : wz W 76 0 [.ref b, .int (jI c), .int (jI cell), .float 0] [] (jm J) Q = Q (oI (s (400 + 24 * c + cell))) (jm J) := by
  obtain ⟨hb, hS, hU, hK, ⟨hA, hT, hV, hP, hW, hL, hQ, hN⟩, hD, hk⟩ := h
  obtain ⟨a1, a2, a3, a4, a5, a6⟩ := hA
  obtain ⟨b1, b2, b3, b4, b5, b6, b7, b8, b9, b10, b11, b12⟩ := hK.1
  have h2 := hS.2.1
  have hcell := ok_cell hL hP c0 c1 l0 l1
  have hrun : ∀ i : Nat, (i : Int) < s 6 → wz W 76 2 [.ref b, .int (jI c), .int (jI cell), .int (jI i)] [] (jm J) Q = if s (72 + 7 * (i : Int) + 3) = 24 * c + cell then Q (oI i) (jm J) else wz W 76 2 [.ref b, .int (jI c), .int (jI cell), .int (jI (i + 1 : Nat))] [] (jm J) Q := by
    intro i hi
    obtain ⟨e1, e2, e3, e4, -⟩ := RS_p hS (p := i) (by omega) (by omega)
    have hw := okW_or hW hK (p := i) (by omega) hi
    generalize hx : s (72 + 7 * (i : Int) + 3) = x at *
    have hch : chOf x = c ↔ x / 24 = c := ch_eq (by omega) c0
    have hcb : -1 ≤ chOf x ∧ chOf x < 100 := by unfold chOf; split <;> omega
    have hce : -1 ≤ ceOf x ∧ ceOf x < 100 := by unfold ceOf; split <;> omega
    rw [sg_76_2 (hb := hb)]
    simp (disch := first | assumption | omega) only [h2, zk_l, zk_r, Option.toList_some, Option.toList_none, List.cons_append, List.nil_append, zrokB, zrokB0, zrokB1, zrokJ0, zrokJ1, and_true, true_and, and_self, if_true, if_false, b2_0, b2_1, b2_not, ite_self, Int.add_zero, jI_nat, jI_add, jI_sub, jI_mul, jI_neg, jI_lt, jI_le, jI_eq, jI_lt0, jI_0lt, jI_le0, jI_0le, jI_eq0, jI_in, jI_dv, i_mod, jI_cl, jm_n, jz_n, i_lit, i_c0, i_c1, Int.toNat_of_nonneg, Int.toNat_natCast, jrow_same, jrow_ne, jrow_jrow, sset_eq, sset_ne]
    rw [if_neg (by omega), sp_45 (zStk_r5 hb) (by omega) (by omega) (by decide), e3]
    simp only [zk_l, zk_r, Option.toList_some, Option.toList_none, List.cons_append, List.nil_append, zrokB, zrokB0, zrokB1, zrokJ0, zrokJ1, and_true, true_and, and_self, if_true, if_false, b2_0, b2_1, b2_not, ite_self]
    rw [sg_76_18 (hb := hb), sp_45 (zStk_r6 hb) (by omega) (by omega) (by decide), e4]
    simp (disch := first | assumption | omega) only [sg_76_36, zk_l, zk_r, Option.toList_some, Option.toList_none, List.cons_append, List.nil_append, zrokB, zrokB0, zrokB1, zrokJ0, zrokJ1, and_true, true_and, and_self, if_true, if_false, b2_0, b2_1, b2_not, ite_self, Int.add_zero, jI_nat, jI_add, jI_sub, jI_mul, jI_neg, jI_lt, jI_le, jI_eq, jI_lt0, jI_0lt, jI_le0, jI_0le, jI_eq0, jI_in, jI_dv, i_mod, jI_cl, jm_n, jz_n, i_lit, i_c0, i_c1, Int.toNat_of_nonneg, Int.toNat_natCast, jrow_same, jrow_ne, jrow_jrow, sset_eq, sset_ne]
    rw [sg_76_30 (hb := hb)]
    simp (disch := first | assumption | omega) only [sg_76_36, zk_l, zk_r, Option.toList_some, Option.toList_none, List.cons_append, List.nil_append, zrokB, zrokB0, zrokB1, zrokJ0, zrokJ1, and_true, true_and, and_self, if_true, if_false, b2_0, b2_1, b2_not, ite_self, Int.add_zero, jI_nat, jI_add, jI_sub, jI_mul, jI_neg, jI_lt, jI_le, jI_eq, jI_lt0, jI_0lt, jI_le0, jI_0le, jI_eq0, jI_in, jI_dv, i_mod, jI_cl, jm_n, jz_n, i_lit, i_c0, i_c1, Int.toNat_of_nonneg, Int.toNat_natCast, jrow_same, jrow_ne, jrow_jrow, sset_eq, sset_ne]
    by_cases f : chOf x = c
    · rw [if_pos f]
      have f' := hch.mp f
      have h0 : 0 ≤ x := by omega
      rw [ce_eq h0]
      by_cases f2 : x % 24 = cell
      · rw [if_pos f2, if_pos (by omega)]
      · rw [if_neg f2, if_neg (by omega)]; rfl
    · rw [if_neg f, if_neg (fun h9 => f (hch.mpr (by omega)))]; rfl
  rw [sg_76_0 (hb := hb)]
  have key := zloops (f := fun i => wz W 76 2 [.ref b, .int (jI c), .int (jI cell), .int (jI i)] [] (jm J) Q) (fun i => decide (s (72 + 7 * (i : Int) + 3) = 24 * c + cell)) (s 6).toNat (fun i hi hp => by
    simp only [decide_eq_false_iff_not] at hp ⊢
    rw [hrun i (by omega), if_neg hp])
  refine Eq.trans key ?_
  have hle := zfst_le (fun i : Nat => decide (s (72 + 7 * (i : Int) + 3) = 24 * c + cell)) (s 6).toNat
  have hy := zfst_yes (fun i : Nat => decide (s (72 + 7 * (i : Int) + 3) = 24 * c + cell)) (s 6).toNat
  have hno := zfst_no (fun i : Nat => decide (s (72 + 7 * (i : Int) + 3) = 24 * c + cell)) (s 6).toNat
  generalize zfst (fun i : Nat => decide (s (72 + 7 * (i : Int) + 3) = 24 * c + cell)) (s 6).toNat = m at *
  by_cases hm : m < (s 6).toNat
  · have hp := hy hm
    simp only [decide_eq_true_eq] at hp
    rw [hrun m (by omega), if_pos hp]
    have hw := okW_or hW hK (p := m) (by omega) (by omega)
    rw [hp] at hw
    rcases hw with hw | hw
    · omega
    · rw [show 400 + 24 * c + cell = 400 + (24 * c + cell) by omega, hw.2.2.2.1]
  · rw [sg_76_2 (hb := hb)]
    simp (disch := first | assumption | omega) only [h2, zk_l, zk_r, Option.toList_some, Option.toList_none, List.cons_append, List.nil_append, zrokB, zrokB0, zrokB1, zrokJ0, zrokJ1, and_true, true_and, and_self, if_true, if_false, b2_0, b2_1, b2_not, ite_self, Int.add_zero, jI_nat, jI_add, jI_sub, jI_mul, jI_neg, jI_lt, jI_le, jI_eq, jI_lt0, jI_0lt, jI_le0, jI_0le, jI_eq0, jI_in, jI_dv, i_mod, jI_cl, jm_n, jz_n, i_lit, i_c0, i_c1, Int.toNat_of_nonneg, Int.toNat_natCast, jrow_same, jrow_ne, jrow_jrow, sset_eq, sset_ne]
    rw [if_pos (by omega)]
    rcases hcell with hcell | ⟨r1, r2, r3, -⟩
    · rw [hcell]
    · have := hno (s (400 + 24 * c + cell)).toNat (by omega)
      simp only [decide_eq_false_iff_not] at this
      rw [Int.toNat_of_nonneg r1] at this
      exact absurd r3 this
/-- no pallet of the first n is in that cell -/
def nonB (s : Int → Int) (c : Int) (n : Nat) : Int → Bool := fun j => zAllB (fun p => !(decide (s (72 + 7 * (p : Int) + 3) = 24 * c + j))) n
theorem nonB_all (hK : okK s) (hW : okW s) (hL : okL s) (hP : okP s) (h6 : 0 ≤ s 6) {c j : Int} (c0 : 0 ≤ c) (c1 : c < 3) (j0 : 0 ≤ j) (j1 : j < 24) : nonB s c (s 6).toNat j = frB s c j := by
  unfold nonB frB
  rw [Bool.eq_iff_iff, zAllB_iff, decide_eq_true_eq]
  have hcell := ok_cell hL hP c0 c1 j0 j1
  constructor
  · intro h
    rcases hcell with hcell | ⟨r1, r2, r3, -⟩
    · exact hcell
    · have := h (s (400 + 24 * c + j)).toNat (by omega)
      simp only [Bool.not_eq_true', decide_eq_false_iff_not] at this
      rw [Int.toNat_of_nonneg r1] at this
      exact absurd r3 this
  · intro h i hi
    simp only [Bool.not_eq_true', decide_eq_false_iff_not]
    intro h9
    have hw := okW_or hW hK (p := i) (by omega) (by omega)
    rw [h9] at hw
    rcases hw with hw | hw
    · omega
    · have := hw.2.2.2.1
      rw [show 400 + (24 * c + j) = 400 + 24 * c + j by omega, h] at this
      omega
theorem sp_77 (h : CX J b s D k) {c : Int} (c0 : 0 ≤ c) (c1 : c < s 4) : wz W 77 0 [.ref b, .int (jI c), .float 0, .float 0] [] (jm J) Q = Q (.inl (some (.int (mk (nC s c) (frB s c))))) (jm J) := by
  obtain ⟨hb, hS, hU, hK, ⟨hA, hT, hV, hP, hW, hL, hQ, hN⟩, hD, hk⟩ := h
  obtain ⟨a1, a2, a3, a4, a5, a6⟩ := hA
  obtain ⟨b1, b2, b3, b4, b5, b6, b7, b8, b9, b10, b11, b12⟩ := hK.1
  obtain ⟨e, n1, n2, r1, r2, w1, w2, c3⟩ := nC_eq hK c0 c1
  obtain ⟨⟨-, -, -, -, hall, -⟩, -⟩ := ru_ch hU hK c0 c1
  have hcb : zChb (5 + 19 + c.toNat) := zStp_c zStp_5 (by omega)
  have h2 := hS.2.1
  rw [sg_77_0 (hb := hb), sp_53 zStp_5 c0 c3]
  simp only [zk_l, zk_r, Option.toList_some, Option.toList_none, List.cons_append, List.nil_append, zrokB, zrokB0, zrokB1, zrokJ0, zrokJ1, and_true, true_and, and_self, if_true, if_false, b2_0, b2_1, b2_not, ite_self]
  rw [sg_77_8 (hb := hb) (hqt0 := hcb), jm_l, hall]
  have key := zloop (f := fun i => wz W 77 14 [.ref b, .int (jI c), .int (mk (nC s c) (nonB s c i)), .int (jI i)] [] (jm J) Q) (s 6).toNat (fun i hi => by
    try simp only
    obtain ⟨e1, e2, e3, e4, -⟩ := RS_p hS (p := i) (by omega) (by omega)
    have hw := okW_or hW hK (p := i) (by omega) (by omega)
    have hs : ∀ j, nonB s c (i + 1) j = (nonB s c i j && !(decide (s (72 + 7 * (i : Int) + 3) = 24 * c + j))) := fun j => rfl
    generalize hx : s (72 + 7 * (i : Int) + 3) = x at *
    have hch : chOf x = c ↔ x / 24 = c := ch_eq (by omega) c0
    have hcb : -1 ≤ chOf x ∧ chOf x < 100 := by unfold chOf; split <;> omega
    rw [sg_77_14 (hb := hb)]
    simp (disch := first | assumption | omega) only [h2, zk_l, zk_r, Option.toList_some, Option.toList_none, List.cons_append, List.nil_append, zrokB, zrokB0, zrokB1, zrokJ0, zrokJ1, and_true, true_and, and_self, if_true, if_false, b2_0, b2_1, b2_not, ite_self, Int.add_zero, jI_nat, jI_add, jI_sub, jI_mul, jI_neg, jI_lt, jI_le, jI_eq, jI_lt0, jI_0lt, jI_le0, jI_0le, jI_eq0, jI_in, jI_dv, i_mod, jI_cl, jm_n, jz_n, i_lit, i_c0, i_c1, Int.toNat_of_nonneg, Int.toNat_natCast, jrow_same, jrow_ne, jrow_jrow, sset_eq, sset_ne]
    rw [if_neg (by omega), sp_45 (zStk_r5 hb) (by omega) (by omega) (by decide), e3]
    simp only [zk_l, zk_r, Option.toList_some, Option.toList_none, List.cons_append, List.nil_append, zrokB, zrokB0, zrokB1, zrokJ0, zrokJ1, and_true, true_and, and_self, if_true, if_false, b2_0, b2_1, b2_not, ite_self]
    rw [sg_77_30 (hb := hb), sp_45 (zStk_r6 hb) (by omega) (by omega) (by decide), e4]
    simp (disch := first | assumption | omega) only [sg_77_49, zk_l, zk_r, Option.toList_some, Option.toList_none, List.cons_append, List.nil_append, zrokB, zrokB0, zrokB1, zrokJ0, zrokJ1, and_true, true_and, and_self, if_true, if_false, b2_0, b2_1, b2_not, ite_self, Int.add_zero, jI_nat, jI_add, jI_sub, jI_mul, jI_neg, jI_lt, jI_le, jI_eq, jI_lt0, jI_0lt, jI_le0, jI_0le, jI_eq0, jI_in, jI_dv, i_mod, jI_cl, jm_n, jz_n, i_lit, i_c0, i_c1, Int.toNat_of_nonneg, Int.toNat_natCast, jrow_same, jrow_ne, jrow_jrow, sset_eq, sset_ne]
    by_cases f : chOf x = c
    · rw [if_pos f]
      have f' := hch.mp f
      have h0 : 0 ≤ x := by omega
      have hx24 : x % 24 < nC s c := by
        rcases hw with hw | hw
        · omega
        · rw [← f']; exact hw.2.2.1
      rw [ce_eq h0, sg_77_44 (hb := hb), mk_one (n := nC s c) (by omega) (by omega) hx24, mk_dif (by omega), sg_77_49 (hb := hb), jI_add]
      rw [mk_congr (E := fun j => nonB s c i j && !(decide (j = x % 24))) (F := nonB s c (i + 1)) (fun j j0 j1 => by
        rw [hs j]
        congr 2
        rw [decide_eq_decide]
        omega)]
      rfl
    · rw [if_neg f]
      rw [mk_congr (E := nonB s c i) (F := nonB s c (i + 1)) (fun j j0 j1 => by
        rw [hs j, decide_eq_false (fun h9 => f (hch.mpr (by omega))), Bool.not_false, Bool.and_true])]
      rfl)
  refine Eq.trans key ?_
  rw [sg_77_14 (hb := hb)]
  simp (disch := first | assumption | omega) only [h2, zk_l, zk_r, Option.toList_some, Option.toList_none, List.cons_append, List.nil_append, zrokB, zrokB0, zrokB1, zrokJ0, zrokJ1, and_true, true_and, and_self, if_true, if_false, b2_0, b2_1, b2_not, ite_self, Int.add_zero, jI_nat, jI_add, jI_sub, jI_mul, jI_neg, jI_lt, jI_le, jI_eq, jI_lt0, jI_0lt, jI_le0, jI_0le, jI_eq0, jI_in, jI_dv, i_mod, jI_cl, jm_n, jz_n, i_lit, i_c0, i_c1, Int.toNat_of_nonneg, Int.toNat_natCast, jrow_same, jrow_ne, jrow_jrow, sset_eq, sset_ne]
  rw [if_pos (by omega), mk_congr (E := nonB s c (s 6).toNat) (F := frB s c) (fun j j0 j1 => nonB_all hK hW hL hP a3 c0 c3 j0 (by omega))]
/-- a pallet of the first n that clashes with the goods g is in that cell -/
def clB (s : Int → Int) (c g : Int) (n : Nat) : Int → Bool := fun j => zAnyB (fun p => decide (s (72 + 7 * (p : Int) + 3) = 24 * c + j) && bad s g (s (72 + 7 * (p : Int)))) n
theorem zAnyB_s (p : Nat → Bool) (n : Nat) : zAnyB p (n + 1) = (zAnyB p n || p n) := by
  unfold zAnyB
  show (!(zAllB (fun j => !(p j)) n && !(p n))) = _
  cases zAllB (fun j => !(p j)) n <;> cases p n <;> rfl
theorem clB_sf (hK : okK s) (hW : okW s) (hL : okL s) (hP : okP s) (h6 : 0 ≤ s 6) {c g j : Int} (c0 : 0 ≤ c) (c1 : c < s 4) : nbr (nb (gC s c)) (nC s c) (clB s c g (s 6).toNat) j = !(sfB s c j g (-1)) := by
  obtain ⟨e, n1, n2, r1, r2, w1, w2, c3⟩ := nC_eq hK c0 c1
  rw [Bool.eq_iff_iff, nbr_iff, Bool.not_eq_true', ← Bool.not_eq_true]
  unfold sfB
  rw [zAllB_iff]
  constructor
  · rintro ⟨i, i0, i1, h, hn⟩ h9
    unfold clB at h
    rw [zAnyB_iff] at h
    obtain ⟨p, hp, h⟩ := h
    rw [Bool.and_eq_true, decide_eq_true_eq] at h
    have hw := okW_or hW hK (p := p) (by omega) (by omega)
    rw [h.1] at hw
    have hc : s (400 + 24 * c + i) = p := by
      rcases hw with hw | hw
      · omega
      · rw [show 400 + 24 * c + i = 400 + (24 * c + i) by omega]; exact hw.2.2.2.1
    have := h9 i.toNat (by omega)
    rw [Int.toNat_of_nonneg i0] at this
    unfold sfAt at this
    rw [hc, nb_sym, hn, h.2, decide_eq_false (show ¬ (p : Int) = -1 by omega)] at this
    cases this
  · intro h
    apply Classical.byContradiction
    intro h9
    apply h
    intro i hi
    unfold sfAt
    apply Classical.byContradiction
    intro h8
    simp only [Bool.or_eq_true, decide_eq_true_eq, Bool.not_eq_true', not_or, Bool.not_eq_false] at h8
    obtain ⟨⟨⟨h1, -⟩, h3⟩, h4⟩ := h8
    have hcell := ok_cell hL hP c0 c3 (k := i) (by omega) (by omega)
    rcases hcell with hcell | ⟨q1, q2, q3, -⟩
    · exact h1 hcell
    · refine h9 ⟨i, by omega, by omega, ?_, by rw [nb_sym]; exact h3⟩
      unfold clB
      rw [zAnyB_iff]
      refine ⟨(s (400 + 24 * c + i)).toNat, by omega, ?_⟩
      rw [Int.toNat_of_nonneg q1, Bool.and_eq_true, decide_eq_true_eq]
      exact ⟨q3, h4⟩
theorem sp_78 (h : CX J b s D k) {c g : Int} (c0 : 0 ≤ c) (c1 : c < s 4) (g0 : 0 ≤ g) (g1 : g < s 5) : wz W 78 0 [.ref b, .int (jI c), .int (jI g), .float 0, .float 0, .float 0] [] (jm J) Q = Q (.inl (some (.int (mk (nC s c) (saB s c g))))) (jm J) := by
  have h' := h
  obtain ⟨hb, hS, hU, hK, ⟨hA, hT, hV, hP, hW, hL, hQ, hN⟩, hD, hk⟩ := h
  obtain ⟨a1, a2, a3, a4, a5, a6⟩ := hA
  obtain ⟨b1, b2, b3, b4, b5, b6, b7, b8, b9, b10, b11, b12⟩ := hK.1
  obtain ⟨e, n1, n2, r1, r2, w1, w2, c3⟩ := nC_eq hK c0 c1
  obtain ⟨hG, -⟩ := ru_ch hU hK c0 c1
  obtain ⟨g6, hg, -⟩ := RU_g hU hK g0 g1
  have hcb : zChb (5 + 19 + c.toNat) := zStp_c zStp_5 (by omega)
  have h2 := hS.2.1
  rw [sg_78_0 (hb := hb), sp_52 zStp_5 g0 g6]
  simp only [zk_l, zk_r, Option.toList_some, Option.toList_none, List.cons_append, List.nil_append, zrokB, zrokB0, zrokB1, zrokJ0, zrokJ1, and_true, true_and, and_self, if_true, if_false, b2_0, b2_1, b2_not, ite_self]
  rw [sg_78_8 (hb := hb) (hqt0 := hg)]
  have key := zloop (f := fun i => wz W 78 15 [.ref b, .int (jI c), .int (jI g), .ref (5 + 13 + g.toNat), .int (mk (nC s c) (clB s c g i)), .int (jI i)] [] (jm J) Q) (s 6).toNat (fun i hi => by
    try simp only
    obtain ⟨e1, e2, e3, e4, -⟩ := RS_p hS (p := i) (by omega) (by omega)
    obtain ⟨q1, q2, -⟩ := hP i (by omega) (by omega)
    obtain ⟨o6, ho, -⟩ := RU_g hU hK q1 q2
    have hw := okW_or hW hK (p := i) (by omega) (by omega)
    have hs : ∀ j, clB s c g (i + 1) j = (clB s c g i j || (decide (s (72 + 7 * (i : Int) + 3) = 24 * c + j) && bad s g (s (72 + 7 * (i : Int))))) := fun j => zAnyB_s _ _
    generalize hx : s (72 + 7 * (i : Int) + 3) = x at *
    have hch : chOf x = c ↔ x / 24 = c := ch_eq (by omega) c0
    have hcb : -1 ≤ chOf x ∧ chOf x < 100 := by unfold chOf; split <;> omega
    rw [sg_78_15 (hb := hb) (hqx3 := hg)]
    simp (disch := first | assumption | omega) only [h2, zk_l, zk_r, Option.toList_some, Option.toList_none, List.cons_append, List.nil_append, zrokB, zrokB0, zrokB1, zrokJ0, zrokJ1, and_true, true_and, and_self, if_true, if_false, b2_0, b2_1, b2_not, ite_self, Int.add_zero, jI_nat, jI_add, jI_sub, jI_mul, jI_neg, jI_lt, jI_le, jI_eq, jI_lt0, jI_0lt, jI_le0, jI_0le, jI_eq0, jI_in, jI_dv, i_mod, jI_cl, jm_n, jz_n, i_lit, i_c0, i_c1, Int.toNat_of_nonneg, Int.toNat_natCast, jrow_same, jrow_ne, jrow_jrow, sset_eq, sset_ne]
    rw [if_neg (by omega), sp_45 (zStk_r5 hb) (by omega) (by omega) (by decide), e3]
    simp only [zk_l, zk_r, Option.toList_some, Option.toList_none, List.cons_append, List.nil_append, zrokB, zrokB0, zrokB1, zrokJ0, zrokJ1, and_true, true_and, and_self, if_true, if_false, b2_0, b2_1, b2_not, ite_self]
    rw [sg_78_33 (hb := hb) (hqx3 := hg), sp_70 h' (by omega) (by omega)]
    simp (disch := first | assumption | omega) only [zk_l, zk_r, Option.toList_some, Option.toList_none, List.cons_append, List.nil_append, zrokB, zrokB0, zrokB1, zrokJ0, zrokJ1, and_true, true_and, and_self, if_true, if_false, b2_0, b2_1, b2_not, ite_self, Int.add_zero, jI_nat, jI_add, jI_sub, jI_mul, jI_neg, jI_lt, jI_le, jI_eq, jI_lt0, jI_0lt, jI_le0, jI_0le, jI_eq0, jI_in, jI_dv, i_mod, jI_cl, jm_n, jz_n, i_lit, i_c0, i_c1, Int.toNat_of_nonneg, Int.toNat_natCast, jrow_same, jrow_ne, jrow_jrow, sset_eq, sset_ne]
    rw [sg_78_44 (hb := hb) (hqx3 := hg) (hqt0 := hg) (hqt1 := ho), sp_10s hU hK g0 g1 q1 q2]
    simp only [zk_l, zk_r, Option.toList_some, Option.toList_none, List.cons_append, List.nil_append, zrokB, zrokB0, zrokB1, zrokJ0, zrokJ1, and_true, true_and, and_self, if_true, if_false, b2_0, b2_1, b2_not, ite_self]
    rw [sg_78_47 (hb := hb) (hqx3 := hg), sp_45 (zStk_r6 hb) (by omega) (by omega) (by decide), e4]
    simp only [zk_l, zk_r, Option.toList_some, Option.toList_none, List.cons_append, List.nil_append, zrokB, zrokB0, zrokB1, zrokJ0, zrokJ1, and_true, true_and, and_self, if_true, if_false, b2_0, b2_1, b2_not, ite_self]
    by_cases f : chOf x = c
    · rw [if_pos f]
      have f' := hch.mp f
      have h0 : 0 ≤ x := by omega
      have hx24 : x % 24 < nC s c := by
        rcases hw with hw | hw
        · omega
        · rw [← f']; exact hw.2.2.1
      rw [ce_eq h0]
      cases hbad : bad s g (s (72 + 7 * (i : Int))) with
      | false =>
        rw [if_pos (by decide), sg_78_66 (hb := hb) (hqx3 := hg), jI_add]
        rw [mk_congr (E := clB s c g i) (F := clB s c g (i + 1)) (fun j j0 j1 => by rw [hs j, hbad, Bool.and_false, Bool.or_false])]
        rfl
      | true =>
        rw [if_neg (by decide), sg_78_62 (hb := hb) (hqx3 := hg), mk_one (n := nC s c) (by omega) (by omega) hx24, mk_or (by omega), sg_78_66 (hb := hb) (hqx3 := hg), jI_add]
        rw [mk_congr (E := fun j => clB s c g i j || decide (j = x % 24)) (F := clB s c g (i + 1)) (fun j j0 j1 => by
          rw [hs j, hbad, Bool.and_true]
          congr 1
          rw [decide_eq_decide]
          omega)]
        rfl
    · rw [if_neg f, sg_78_66 (hb := hb) (hqx3 := hg), jI_add]
      rw [mk_congr (E := clB s c g i) (F := clB s c g (i + 1)) (fun j j0 j1 => by
        rw [hs j, decide_eq_false (fun h9 => f (hch.mpr (by omega))), Bool.false_and, Bool.or_false])]
      rfl)
  have e0 : mk (nC s c) (clB s c g 0) = jI 0 := by
    rw [← mk_0 (n := nC s c)]
    exact mk_congr (fun j _ _ => rfl)
  simp only [e0] at key
  refine Eq.trans key ?_
  rw [sg_78_15 (hb := hb) (hqx3 := hg)]
  simp (disch := first | assumption | omega) only [h2, zk_l, zk_r, Option.toList_some, Option.toList_none, List.cons_append, List.nil_append, zrokB, zrokB0, zrokB1, zrokJ0, zrokJ1, and_true, true_and, and_self, if_true, if_false, b2_0, b2_1, b2_not, ite_self, Int.add_zero, jI_nat, jI_add, jI_sub, jI_mul, jI_neg, jI_lt, jI_le, jI_eq, jI_lt0, jI_0lt, jI_le0, jI_0le, jI_eq0, jI_in, jI_dv, i_mod, jI_cl, jm_n, jz_n, i_lit, i_c0, i_c1, Int.toNat_of_nonneg, Int.toNat_natCast, jrow_same, jrow_ne, jrow_jrow, sset_eq, sset_ne]
  rw [if_pos (by omega), sp_77 h' c0 c1]
  simp only [zk_l, zk_r, Option.toList_some, Option.toList_none, List.cons_append, List.nil_append, zrokB, zrokB0, zrokB1, zrokJ0, zrokJ1, and_true, true_and, and_self, if_true, if_false, b2_0, b2_1, b2_not, ite_self]
  rw [sg_78_77 (hb := hb) (hqx3 := hg), sp_53 zStp_5 c0 c3]
  simp only [zk_l, zk_r, Option.toList_some, Option.toList_none, List.cons_append, List.nil_append, zrokB, zrokB0, zrokB1, zrokJ0, zrokJ1, and_true, true_and, and_self, if_true, if_false, b2_0, b2_1, b2_not, ite_self]
  rw [sg_78_85 (hb := hb) (hqx3 := hg) (hqt1 := hcb), sp_3 hcb hG]
  simp only [zk_l, zk_r, Option.toList_some, Option.toList_none, List.cons_append, List.nil_append, zrokB, zrokB0, zrokB1, zrokJ0, zrokJ1, and_true, true_and, and_self, if_true, if_false, b2_0, b2_1, b2_not, ite_self]
  rw [sg_78_90 (hb := hb) (hqx3 := hg), mk_dif (by omega)]
  rw [mk_congr (E := fun j => frB s c j && !(nbr (nb (gC s c)) (nC s c) (clB s c g (s 6).toNat) j)) (F := saB s c g) (fun j j0 j1 => by
    rw [clB_sf hK hW hL hP a3 c0 c1, Bool.not_not]
    rfl)]
theorem sp_79 (h : CX J b s D k) {c cell : Int} (c0 : 0 ≤ c) (c1 : c < s 4) (l0 : 0 ≤ cell) (l1 : cell < nC s c) : wz W 79 0 [.ref b, .int (jI c), .int (jI cell), .float 0] [] (jm J) Q = Q (oI (wayC s c cell)) (jm J) := by
  have h' := h
  obtain ⟨hb, hS, hU, hK, -, hD, hk⟩ := h
  obtain ⟨e, n1, n2, r1, r2, w1, w2, c3⟩ := nC_eq hK c0 c1
  obtain ⟨hG, hdr⟩ := ru_ch hU hK c0 c1
  have hcb : zChb (5 + 19 + c.toNat) := zStp_c zStp_5 (by omega)
  rw [sg_79_0 (hb := hb), sp_53 zStp_5 c0 c3]
  simp only [zk_l, zk_r, Option.toList_some, Option.toList_none, List.cons_append, List.nil_append, zrokB, zrokB0, zrokB1, zrokJ0, zrokJ1, and_true, true_and, and_self, if_true, if_false, b2_0, b2_1, b2_not, ite_self]
  rw [sg_79_8 (hb := hb) (hqt0 := hcb), sp_77 h' c0 c1]
  simp only [zk_l, zk_r, Option.toList_some, Option.toList_none, List.cons_append, List.nil_append, zrokB, zrokB0, zrokB1, zrokJ0, zrokJ1, and_true, true_and, and_self, if_true, if_false, b2_0, b2_1, b2_not, ite_self]
  rw [sg_79_20 (hb := hb) (hqx3 := hcb) (hqt0 := hcb), jm_l, hdr, mk_one (n := nC s c) (by omega) l0 l1, mk_or (by omega), sp_5 hcb hG _ _ l0 l1]
  simp only [zk_l, zk_r, Option.toList_some, Option.toList_none, List.cons_append, List.nil_append, zrokB, zrokB0, zrokB1, zrokJ0, zrokJ1, and_true, true_and, and_self, if_true, if_false, b2_0, b2_1, b2_not, ite_self]
  rw [sg_79_27 (hb := hb) (hqx3 := hcb)]
  rfl
def sui (s : Int → Int) (g t : Int) : Bool := decide (s (36 + 6 * g + 1) ≤ t) && decide (t ≤ s (36 + 6 * g + 2))
theorem sp_11s (hU : RU J 5 s) (hK : okK s) {g t : Int} (g0 : 0 ≤ g) (g1 : g < s 5) (t0 : -1000 ≤ t) (t1 : t ≤ 1000) : wz W 11 0 [.ref (5 + 13 + g.toNat), .int (jI t)] [] (jm J) Q = Q (oB (sui s g t)) (jm J) := by
  obtain ⟨a0, a1, a2, a3, a4, a5, a6, a7, a8⟩ := RU_g hU hK g0 g1
  obtain ⟨d1, d2, d3, d4, d5, d6, d7, d8, d9, d10, d11⟩ := hK.2.2.1 g g0 g1
  rw [sp_11 a1 t0 t1 (by omega) (by omega) (by omega) (by omega), a4, a5]
  rfl
def cntU (s : Int → Int) (c t : Int) (n : Nat) : Nat := cntB (fun p => decide (chOf (s (72 + 7 * (p : Int) + 3)) = c) && sui s (s (72 + 7 * (p : Int))) t) n
theorem sp_80 (h : CX J b s D k) {c t : Int} (c0 : 0 ≤ c) (c1 : c < s 4) (t0 : -1000 ≤ t) (t1 : t ≤ 1000) : wz W 80 0 [.ref b, .int (jI c), .int (jI t), .float 0, .float 0] [] (jm J) Q = Q (oI (cntU s c t (s 6).toNat)) (jm J) := by
  have h' := h
  obtain ⟨hb, hS, hU, hK, ⟨hA, hT, hV, hP, hW, hL, hQ, hN⟩, hD, hk⟩ := h
  obtain ⟨a1, a2, a3, a4, a5, a6⟩ := hA
  obtain ⟨b1, b2, b3, b4, b5, b6, b7, b8, b9, b10, b11, b12⟩ := hK.1
  have h2 := hS.2.1
  rw [sg_80_0 (hb := hb)]
  have key := zloop (f := fun i => wz W 80 5 [.ref b, .int (jI c), .int (jI t), .int (jI (cntU s c t i)), .int (jI i)] [] (jm J) Q) (s 6).toNat (fun i hi => by
    try simp only
    obtain ⟨e1, e2, e3, e4, -⟩ := RS_p hS (p := i) (by omega) (by omega)
    obtain ⟨q1, q2, -⟩ := hP i (by omega) (by omega)
    obtain ⟨o6, ho, -⟩ := RU_g hU hK q1 q2
    have hw := okW_or hW hK (p := i) (by omega) (by omega)
    have hcb : -1 ≤ chOf (s (72 + 7 * (i : Int) + 3)) ∧ chOf (s (72 + 7 * (i : Int) + 3)) < 100 := by unfold chOf; split <;> omega
    rw [sg_80_5 (hb := hb)]
    simp (disch := first | assumption | omega) only [h2, zk_l, zk_r, Option.toList_some, Option.toList_none, List.cons_append, List.nil_append, zrokB, zrokB0, zrokB1, zrokJ0, zrokJ1, and_true, true_and, and_self, if_true, if_false, b2_0, b2_1, b2_not, ite_self, Int.add_zero, jI_nat, jI_add, jI_sub, jI_mul, jI_neg, jI_lt, jI_le, jI_eq, jI_lt0, jI_0lt, jI_le0, jI_0le, jI_eq0, jI_in, jI_dv, i_mod, jI_cl, jm_n, jz_n, i_lit, i_c0, i_c1, Int.toNat_of_nonneg, Int.toNat_natCast, jrow_same, jrow_ne, jrow_jrow, sset_eq, sset_ne]
    rw [if_neg (by omega), sp_45 (zStk_r5 hb) (by omega) (by omega) (by decide), e3]
    simp only [zk_l, zk_r, Option.toList_some, Option.toList_none, List.cons_append, List.nil_append, zrokB, zrokB0, zrokB1, zrokJ0, zrokJ1, and_true, true_and, and_self, if_true, if_false, b2_0, b2_1, b2_not, ite_self]
    rw [sg_80_23 (hb := hb), sp_70 h' (by omega) (by omega)]
    simp (disch := first | assumption | omega) only [zk_l, zk_r, Option.toList_some, Option.toList_none, List.cons_append, List.nil_append, zrokB, zrokB0, zrokB1, zrokJ0, zrokJ1, and_true, true_and, and_self, if_true, if_false, b2_0, b2_1, b2_not, ite_self, Int.add_zero, jI_nat, jI_add, jI_sub, jI_mul, jI_neg, jI_lt, jI_le, jI_eq, jI_lt0, jI_0lt, jI_le0, jI_0le, jI_eq0, jI_in, jI_dv, i_mod, jI_cl, jm_n, jz_n, i_lit, i_c0, i_c1, Int.toNat_of_nonneg, Int.toNat_natCast, jrow_same, jrow_ne, jrow_jrow, sset_eq, sset_ne]
    rw [sg_80_33 (hb := hb) (hqt0 := ho), sp_11s hU hK q1 q2 t0 t1]
    simp only [zk_l, zk_r, Option.toList_some, Option.toList_none, List.cons_append, List.nil_append, zrokB, zrokB0, zrokB1, zrokJ0, zrokJ1, and_true, true_and, and_self, if_true, if_false, b2_0, b2_1, b2_not, ite_self]
    rw [sg_80_37 (hb := hb)]
    simp (disch := first | assumption | omega) only [sg_80_43, zk_l, zk_r, Option.toList_some, Option.toList_none, List.cons_append, List.nil_append, zrokB, zrokB0, zrokB1, zrokJ0, zrokJ1, and_true, true_and, and_self, if_true, if_false, b2_0, b2_1, b2_not, ite_self, Int.add_zero, jI_nat, jI_add, jI_sub, jI_mul, jI_neg, jI_lt, jI_le, jI_eq, jI_lt0, jI_0lt, jI_le0, jI_0le, jI_eq0, jI_in, jI_dv, i_mod, jI_cl, jm_n, jz_n, i_lit, i_c0, i_c1, Int.toNat_of_nonneg, Int.toNat_natCast, jrow_same, jrow_ne, jrow_jrow, sset_eq, sset_ne]
    unfold cntU
    rw [cnt_step]
    by_cases f : chOf (s (72 + 7 * (i : Int) + 3)) = c
    · rw [if_pos f, decide_eq_true f]
      cases sui s (s (72 + 7 * (i : Int))) t <;> rfl
    · rw [if_neg f, decide_eq_false f]; rfl)
  refine Eq.trans key ?_
  rw [sg_80_5 (hb := hb)]
  simp (disch := first | assumption | omega) only [h2, zk_l, zk_r, Option.toList_some, Option.toList_none, List.cons_append, List.nil_append, zrokB, zrokB0, zrokB1, zrokJ0, zrokJ1, and_true, true_and, and_self, if_true, if_false, b2_0, b2_1, b2_not, ite_self, Int.add_zero, jI_nat, jI_add, jI_sub, jI_mul, jI_neg, jI_lt, jI_le, jI_eq, jI_lt0, jI_0lt, jI_le0, jI_0le, jI_eq0, jI_in, jI_dv, i_mod, jI_cl, jm_n, jz_n, i_lit, i_c0, i_c1, Int.toNat_of_nonneg, Int.toNat_natCast, jrow_same, jrow_ne, jrow_jrow, sset_eq, sset_ne]
  rw [if_pos (by omega)]
/-- canLeave -/
def clv (s : Int → Int) (p : Int) : Bool := thr s p && !(spo s p) && (decide (s (72 + 7 * p + 2) = 0) || decide (wayC s (s (72 + 7 * p + 3) / 24) (s (72 + 7 * p + 3) % 24) ≠ -1))
theorem sp_75 (h : CX J b s D k) {p : Int} (p0 : 0 ≤ p) (p1 : p < s 6) : wz W 75 0 [.ref b, .int (jI p)] [] (jm J) Q = Q (oB (clv s p)) (jm J) := by
  have h' := h
  obtain ⟨hb, hS, hU, hK, ⟨hA, hT, hV, hP, hW, hL, hQ, hN⟩, hD, hk⟩ := h
  obtain ⟨a1, a2, a3, a4, a5, a6⟩ := hA
  obtain ⟨b1, b2, b3, b4, b5, b6, b7, b8, b9, b10, b11, b12⟩ := hK.1
  obtain ⟨e1, e2, e3, e4, -⟩ := RS_p hS p0 p1
  obtain ⟨q1, q2, q3, q4, q5, q6, -⟩ := hP p p0 p1
  have hw := okW_or hW hK p0 p1
  rw [sg_75_0 (hb := hb), sp_71 h' p0 p1]
  simp only [zk_l, zk_r, Option.toList_some, Option.toList_none, List.cons_append, List.nil_append, zrokB, zrokB0, zrokB1, zrokJ0, zrokJ1, and_true, true_and, and_self, if_true, if_false, b2_0, b2_1, b2_not, ite_self]
  rw [sg_75_5 (hb := hb), sp_73 h' p0 p1]
  simp only [zk_l, zk_r, Option.toList_some, Option.toList_none, List.cons_append, List.nil_append, zrokB, zrokB0, zrokB1, zrokJ0, zrokJ1, and_true, true_and, and_self, if_true, if_false, b2_0, b2_1, b2_not, ite_self]
  rw [sg_75_13 (hb := hb), sp_45 (zStk_r4 hb) p0 (by omega) (by decide), e2]
  simp (disch := first | assumption | omega) only [sg_75_16, zk_l, zk_r, Option.toList_some, Option.toList_none, List.cons_append, List.nil_append, zrokB, zrokB0, zrokB1, zrokJ0, zrokJ1, and_true, true_and, and_self, if_true, if_false, b2_0, b2_1, b2_not, ite_self]
  rw [sg_75_26 (hb := hb)]
  simp (disch := first | assumption | omega) only [sg_75_53, sg_75_58, zk_l, zk_r, Option.toList_some, Option.toList_none, List.cons_append, List.nil_append, zrokB, zrokB0, zrokB1, zrokJ0, zrokJ1, and_true, true_and, and_self, if_true, if_false, b2_0, b2_1, b2_not, ite_self, Int.add_zero, jI_nat, jI_add, jI_sub, jI_mul, jI_neg, jI_lt, jI_le, jI_eq, jI_lt0, jI_0lt, jI_le0, jI_0le, jI_eq0, jI_in, jI_dv, i_mod, jI_cl, jm_n, jz_n, i_lit, i_c0, i_c1, Int.toNat_of_nonneg, Int.toNat_natCast, jrow_same, jrow_ne, jrow_jrow, sset_eq, sset_ne]
  unfold clv
  cases ht : thr s p with
  | false => rw [if_pos rfl]; rfl
  | true =>
    rw [if_neg (by decide)]
    cases hs : spo s p with
    | true => rw [if_neg (by decide)]; rfl
    | false =>
      rw [if_pos rfl]
      by_cases f : s (72 + 7 * p + 2) = 0
      · rw [if_pos f, decide_eq_true f]; rfl
      · have f1 : s (72 + 7 * p + 2) = 1 := by
          unfold thr at ht
          rw [decide_eq_true_eq] at ht
          omega
        rw [if_neg f, decide_eq_false f]
        rcases hw with hw | ⟨x0, x1, x2, x3, x4⟩
        · have := (hW p p0 p1).1 f1
          omega
        · have hch : chOf (s (72 + 7 * p + 3)) = s (72 + 7 * p + 3) / 24 := by unfold chOf; rw [if_neg (by omega)]
          rw [sp_45 (zStk_r5 hb) p0 (by omega) (by decide), e3, hch]
          simp only [zk_l, zk_r, Option.toList_some, Option.toList_none, List.cons_append, List.nil_append, zrokB, zrokB0, zrokB1, zrokJ0, zrokJ1, and_true, true_and, and_self, if_true, if_false, b2_0, b2_1, b2_not, ite_self]
          rw [sg_75_38 (hb := hb), sp_45 (zStk_r6 hb) p0 (by omega) (by decide), e4, ce_eq x0]
          simp only [zk_l, zk_r, Option.toList_some, Option.toList_none, List.cons_append, List.nil_append, zrokB, zrokB0, zrokB1, zrokJ0, zrokJ1, and_true, true_and, and_self, if_true, if_false, b2_0, b2_1, b2_not, ite_self]
          rw [sg_75_46 (hb := hb), sp_79 h' (by omega) x1 (by omega) x2]
          simp only [zk_l, zk_r, Option.toList_some, Option.toList_none, List.cons_append, List.nil_append, zrokB, zrokB0, zrokB1, zrokJ0, zrokJ1, and_true, true_and, and_self, if_true, if_false, b2_0, b2_1, b2_not, ite_self]
          rw [sg_75_49 (hb := hb)]
          have hwl := wl_bd (adj := nb (gC s (s (72 + 7 * p + 3) / 24))) (n := nC s (s (72 + 7 * p + 3) / 24)) (src := drs s (s (72 + 7 * p + 3) / 24)) (op := fun k => frB s (s (72 + 7 * p + 3) / 24) k || decide (k = s (72 + 7 * p + 3) % 24)) (s (72 + 7 * p + 3) % 24)
          have hwb : -1 ≤ wayC s (s (72 + 7 * p + 3) / 24) (s (72 + 7 * p + 3) % 24) ∧ wayC s (s (72 + 7 * p + 3) / 24) (s (72 + 7 * p + 3) % 24) ≤ 24 := by
            unfold wayC
            omega
          generalize wayC s (s (72 + 7 * p + 3) / 24) (s (72 + 7 * p + 3) % 24) = v at *
          simp (disch := first | assumption | omega) only [sg_75_53, sg_75_58, zk_l, zk_r, Option.toList_some, Option.toList_none, List.cons_append, List.nil_append, zrokB, zrokB0, zrokB1, zrokJ0, zrokJ1, and_true, true_and, and_self, if_true, if_false, b2_0, b2_1, b2_not, ite_self, Int.add_zero, jI_nat, jI_add, jI_sub, jI_mul, jI_neg, jI_lt, jI_le, jI_eq, jI_lt0, jI_0lt, jI_le0, jI_0le, jI_eq0, jI_in, jI_dv, i_mod, jI_cl, jm_n, jz_n, i_lit, i_c0, i_c1, Int.toNat_of_nonneg, Int.toNat_natCast, jrow_same, jrow_ne, jrow_jrow, sset_eq, sset_ne]
          by_cases f2 : v = -1
          · rw [if_pos f2, f2]; rfl
          · rw [if_neg f2, decide_eq_true f2]; rfl
end
