/-! ===== calls that only ask, second lot ===== -/
section
variable {W : zW} {J : zJ} {Q : zO → zI → Prop} {k : Int}
theorem oI_x (x : Int32) : oI x.toInt = .inl (some (.int x)) := by unfold oI; rw [jI_of]
theorem cell_bd {r l R C : Int} (r0 : 0 ≤ r) (r1 : r < R) (l0 : 0 ≤ l) (l1 : l < C) (C1 : 1 ≤ C) (C4 : C ≤ 4) : 0 ≤ r * C + l ∧ r * C + l < R * C := by
  obtain rfl | rfl | rfl | rfl : C = 1 ∨ C = 2 ∨ C = 3 ∨ C = 4 := by omega
  all_goals omega
/-- checkedCell -/
theorem sp_166v {s : Int → Int} (hU : RU J 5 s) (hK : okK s) {c r l : Int} (c0 : 0 ≤ c) (c1 : c < s 4) (r0 : 0 ≤ r) (r1 : r < gR s c) (l0 : 0 ≤ l) (l1 : l < gC s c) : wz W 166 0 [.ref 0, .int (jI c), .int (jI r), .int (jI l), .float 0] [] (jm J) Q = Q (oI (gC s c * r + l)) (jm J) := by
  obtain ⟨e, n1, n2, rr1, rr2, w1, w2, c3⟩ := nC_eq hK c0 c1
  obtain ⟨-, -, -, -, -, -, -, -, hc, -⟩ := hU
  obtain ⟨f0, f1, f2, -⟩ := hc c c0 c1
  have hcb : zChb (5 + 19 + c.toNat) := zStp_c zStp_5 (by omega)
  unfold gR gC at *
  rw [sg_166_0, sp_53 zStp_5 c0 c3]
  simp only [zk_l, zk_r, Option.toList_some, Option.toList_none, List.cons_append, List.nil_append, zrokB, zrokB0, zrokB1, zrokJ0, zrokJ1, and_true, true_and, and_self, if_true, if_false, b2_0, b2_1, b2_not, ite_self]
  rw [sg_166_8 (hqt0 := hcb)]
  simp (disch := first | assumption | omega) only [f1, f2, zk_l, zk_r, Option.toList_some, Option.toList_none, List.cons_append, List.nil_append, zrokB, zrokB0, zrokB1, zrokJ0, zrokJ1, and_true, true_and, and_self, if_true, if_false, b2_0, b2_1, b2_not, ite_self, Int.add_zero, jI_nat, jI_add, jI_sub, jI_mul, jI_neg, jI_lt, jI_le, jI_eq, jI_lt0, jI_0lt, jI_le0, jI_0le, jI_eq0, jI_in, jI_dv, i_mod, jI_cl, jm_n, jz_n, i_lit, i_c0, i_c1, Int.toNat_of_nonneg, Int.toNat_natCast, jrow_same, jrow_ne, jrow_jrow, sset_eq, sset_ne]
  rw [if_neg (by omega), if_neg (by omega), if_neg (by omega), if_pos l1, Int.mul_comm]
theorem sp_166n {s : Int → Int} (hU : RU J 5 s) (hK : okK s) {c r l : Int} (c0 : 0 ≤ c) (c1 : c < s 4) (ra : -2147483648 ≤ r) (rb : r < 2147483648) (la : -2147483648 ≤ l) (lb : l < 2147483648) (h : ¬ (0 ≤ r ∧ r < gR s c ∧ 0 ≤ l ∧ l < gC s c)) : wz W 166 0 [.ref 0, .int (jI c), .int (jI r), .int (jI l), .float 0] [] (jm J) Q = Q (oE 1) (jm J) := by
  obtain ⟨e, n1, n2, rr1, rr2, w1, w2, c3⟩ := nC_eq hK c0 c1
  obtain ⟨-, -, -, -, -, -, -, -, hc, -⟩ := hU
  obtain ⟨f0, f1, f2, -⟩ := hc c c0 c1
  have hcb : zChb (5 + 19 + c.toNat) := zStp_c zStp_5 (by omega)
  unfold gR gC at *
  rw [sg_166_0, sp_53 zStp_5 c0 c3]
  simp only [zk_l, zk_r, Option.toList_some, Option.toList_none, List.cons_append, List.nil_append, zrokB, zrokB0, zrokB1, zrokJ0, zrokJ1, and_true, true_and, and_self, if_true, if_false, b2_0, b2_1, b2_not, ite_self]
  rw [sg_166_8 (hqt0 := hcb)]
  simp only [sg_166_36 (hqx4 := hcb)]
  simp (disch := first | assumption | omega) only [f1, f2, zk_l, zk_r, Option.toList_some, Option.toList_none, List.cons_append, List.nil_append, zrokB, zrokB0, zrokB1, zrokJ0, zrokJ1, and_true, true_and, and_self, if_true, if_false, b2_0, b2_1, b2_not, ite_self, Int.add_zero, jI_nat, jI_add, jI_sub, jI_mul, jI_neg, jI_lt, jI_le, jI_eq, jI_lt0, jI_0lt, jI_le0, jI_0le, jI_eq0, jI_in, jI_dv, i_mod, jI_cl, jm_n, jz_n, i_lit, i_c0, i_c1, Int.toNat_of_nonneg, Int.toNat_natCast, jrow_same, jrow_ne, jrow_jrow, sset_eq, sset_ne]
  by_cases x1 : r < 0
  · rw [if_pos x1]
  · rw [if_neg x1]
    by_cases x2 : s (12 + 8 * c + 1) ≤ r
    · rw [if_pos x2]
    · rw [if_neg x2]
      by_cases x3 : l < 0
      · rw [if_pos x3]
      · rw [if_neg x3, if_neg (by omega)]
/-- isPlace -/
theorem sp_223v (hK : okK (J 355)) {c r l : Int} (c0 : 0 ≤ c) (c1 : c < J 355 4) (r0 : 0 ≤ r) (r1 : r < gR (J 355) c) (l0 : 0 ≤ l) (l1 : l < gC (J 355) c) : wz W 223 0 [.ref 353, .int (jI c), .int (jI r), .int (jI l)] [] (jm J) Q = Q (oB true) (jm J) := by
  obtain ⟨e, n1, n2, rr1, rr2, w1, w2, c3⟩ := nC_eq hK c0 c1
  rw [sp_223 c0 c3 (by omega) (by omega) (by omega) (by omega) rr1 rr2 w1 w2, dvt r0, dvt r1, dvt l0, dvt l1]
  rfl
theorem sp_223n (hK : okK (J 355)) {c r l : Int} (c0 : 0 ≤ c) (c1 : c < J 355 4) (ra : -2147483648 ≤ r) (rb : r < 2147483648) (la : -2147483648 ≤ l) (lb : l < 2147483648) (h : ¬ (0 ≤ r ∧ r < gR (J 355) c ∧ 0 ≤ l ∧ l < gC (J 355) c)) : wz W 223 0 [.ref 353, .int (jI c), .int (jI r), .int (jI l)] [] (jm J) Q = Q (oB false) (jm J) := by
  obtain ⟨e, n1, n2, rr1, rr2, w1, w2, c3⟩ := nC_eq hK c0 c1
  rw [sp_223 c0 c3 ra rb la lb rr1 rr2 w1 w2]
  have e9 : (decide (0 ≤ r) && decide (r < gR (J 355) c) && (decide (0 ≤ l) && decide (l < gC (J 355) c))) = false := by
    rw [← Bool.not_eq_true, Bool.and_eq_true, Bool.and_eq_true, Bool.and_eq_true, decide_eq_true_eq, decide_eq_true_eq, decide_eq_true_eq, decide_eq_true_eq]
    intro h9
    exact h ⟨h9.1.1, h9.1.2, h9.2.1, h9.2.2⟩
  rw [e9]
/-- the ways' lengths of the two sides -/
theorem wayC_free {s : Int → Int} (hK : okK s) {c cell : Int} (c0 : 0 ≤ c) (c1 : c < s 4) (l0 : 0 ≤ cell) (l1 : cell < nC s c) (h : s (400 + 24 * c + cell) = -1) : wayC s c cell = wayS s c (-1) cell := by
  refine wl_cg (fun j j0 j1 => ⟨rfl, ?_⟩) l0 l1
  unfold frB opn
  by_cases e : j = cell
  · rw [e, h]; rfl
  · rw [decide_eq_false e, Bool.or_false, Bool.or_self]
theorem wayC_own {s : Int → Int} (hK : okK s) (hW : okW s) (hL : okL s) {p : Int} (p0 : 0 ≤ p) (p1 : p < s 6) (hp : s (72 + 7 * p + 2) = 1) : wayC s (s (72 + 7 * p + 3) / 24) (s (72 + 7 * p + 3) % 24) = wayS s (s (72 + 7 * p + 3) / 24) p (s (72 + 7 * p + 3) % 24) := by
  obtain ⟨b1, b2, b3, b4, b5, b6, b7, b8, b9, b10, b11, b12⟩ := hK.1
  obtain ⟨w0, w1, w2, w3⟩ := (hW p p0 p1).1 hp
  obtain ⟨e, n1, n2, -⟩ := nC_eq hK (c := s (72 + 7 * p + 3) / 24) (by omega) w1
  have e' : ((nC s (s (72 + 7 * p + 3) / 24) : Nat) : Int) = s (12 + 8 * (s (72 + 7 * p + 3) / 24) + 1) * s (12 + 8 * (s (72 + 7 * p + 3) / 24) + 2) := e
  refine wl_cg (fun j j0 j1 => ⟨rfl, ?_⟩) (by omega) (by omega)
  unfold frB opn
  congr 1
  rw [decide_eq_decide]
  constructor
  · intro h
    rw [h, show 400 + 24 * (s (72 + 7 * p + 3) / 24) + s (72 + 7 * p + 3) % 24 = 400 + s (72 + 7 * p + 3) by omega]
    exact w3
  · intro h
    rcases hL (24 * (s (72 + 7 * p + 3) / 24) + j) (by omega) (by omega) with h9 | ⟨-, -, h9⟩
    · rw [show 400 + (24 * (s (72 + 7 * p + 3) / 24) + j) = 400 + 24 * (s (72 + 7 * p + 3) / 24) + j by omega, h] at h9
      omega
    · rw [show 400 + (24 * (s (72 + 7 * p + 3) / 24) + j) = 400 + 24 * (s (72 + 7 * p + 3) / 24) + j by omega, h] at h9
      omega
theorem wayC_bd (s : Int → Int) (c cell : Int) : wayC s c cell = -1 ∨ (1 ≤ wayC s c cell ∧ wayC s c cell ≤ 24) := wl_bd cell
theorem wayS_bd (s : Int → Int) (c own cell : Int) : wayS s c own cell = -1 ∨ (1 ≤ wayS s c own cell ∧ wayS s c own cell ≤ 24) := wl_bd cell
theorem wayS_full {s : Int → Int} (hK : okK s) {c cell : Int} (c0 : 0 ≤ c) (c1 : c < s 4) (l0 : 0 ≤ cell) (l1 : cell < nC s c) (h : s (400 + 24 * c + cell) ≠ -1) : wayS s c (-1) cell = -1 := by
  obtain ⟨e, n1, n2, -⟩ := nC_eq hK c0 c1
  refine wl_op n2 l0 l1 ?_
  unfold opn
  rw [decide_eq_false h]
  rfl
/-- what hinders a pallet -/
def prb (s : Int → Int) (p c cell : Int) : Int := if s (72 + 7 * p + 2) ≠ 0 then 1 else if s (400 + 24 * c + cell) ≠ -1 then 2 else if sfB s c cell (s (72 + 7 * p)) (-1) = false then 3 else if wayS s c (-1) cell = -1 then 4 else 0
theorem sp_168 {s : Int → Int} {D : Int} (h : CX J 49 s D k) {p c cell : Int} (p0 : 0 ≤ p) (p1 : p < s 6) (c0 : 0 ≤ c) (c1 : c < s 4) (l0 : 0 ≤ cell) (l1 : cell < nC s c) : wz W 168 0 [.ref 0, .int (jI p), .int (jI c), .int (jI cell)] [] (jm J) Q = Q (oI (prb s p c cell)) (jm J) := by
  have h' := h
  obtain ⟨hb, hS, hU, hK, ⟨⟨a1, a2, a3, a4, a5, a6⟩, hT, hV, hP, hW, hL, hQ, hN⟩, hD, hk⟩ := h
  obtain ⟨e, n1, n2, rr1, rr2, w1, w2, c3⟩ := nC_eq hK c0 c1
  obtain ⟨f1, f2, -⟩ := RS_p hS p0 p1
  obtain ⟨q1, q2, q3, q4, q5, q6, -⟩ := hP p p0 p1
  have hcell := ok_cell hL hP c0 c3 l0 (show cell < 24 by omega)
  rw [sg_168_0, sp_45 (zStk_r4 zStk_49) p0 (by omega) (by decide), f2]
  simp only [zk_l, zk_r, Option.toList_some, Option.toList_none, List.cons_append, List.nil_append, zrokB, zrokB0, zrokB1, zrokJ0, zrokJ1, and_true, true_and, and_self, if_true, if_false, b2_0, b2_1, b2_not, ite_self]
  rw [sg_168_11]
  unfold prb
  by_cases x1 : s (72 + 7 * p + 2) = 0
  · rw [if_pos (by rw [x1]; rfl), if_neg (fun h9 => h9 x1), sp_76 h' c0 c3 l0 (by omega)]
    simp only [zk_l, zk_r, Option.toList_some, Option.toList_none, List.cons_append, List.nil_append, zrokB, zrokB0, zrokB1, zrokJ0, zrokJ1, and_true, true_and, and_self, if_true, if_false, b2_0, b2_1, b2_not, ite_self]
    rw [sg_168_25]
    by_cases x2 : s (400 + 24 * c + cell) = -1
    · rw [if_pos (by rw [x2]), if_neg (fun h9 => h9 x2), sp_45 (zStk_r3 zStk_49) p0 (by omega) (by decide), f1]
      simp only [zk_l, zk_r, Option.toList_some, Option.toList_none, List.cons_append, List.nil_append, zrokB, zrokB0, zrokB1, zrokJ0, zrokJ1, and_true, true_and, and_self, if_true, if_false, b2_0, b2_1, b2_not, ite_self]
      rw [sg_168_47 (hqt0 := zStk_49), sp_78 h' c0 c1 q1 q2]
      simp only [zk_l, zk_r, Option.toList_some, Option.toList_none, List.cons_append, List.nil_append, zrokB, zrokB0, zrokB1, zrokJ0, zrokJ1, and_true, true_and, and_self, if_true, if_false, b2_0, b2_1, b2_not, ite_self]
      rw [sg_168_50, sp_167 l0 (by omega), mk_bt (by omega) _ l0 l1]
      simp only [zk_l, zk_r, Option.toList_some, Option.toList_none, List.cons_append, List.nil_append, zrokB, zrokB0, zrokB1, zrokJ0, zrokJ1, and_true, true_and, and_self, if_true, if_false, b2_0, b2_1, b2_not, ite_self]
      rw [sg_168_54]
      have es : saB s c (s (72 + 7 * p)) cell = sfB s c cell (s (72 + 7 * p)) (-1) := by
        unfold saB frB
        rw [decide_eq_true x2, Bool.true_and]
      rw [es]
      cases hsf : sfB s c cell (s (72 + 7 * p)) (-1) with
      | false => rw [if_pos (by decide), if_pos rfl]
      | true =>
        rw [if_neg (by decide), if_neg (by decide), sp_79 h' c0 c1 l0 l1, wayC_free hK c0 c1 l0 l1 x2]
        simp only [zk_l, zk_r, Option.toList_some, Option.toList_none, List.cons_append, List.nil_append, zrokB, zrokB0, zrokB1, zrokJ0, zrokJ1, and_true, true_and, and_self, if_true, if_false, b2_0, b2_1, b2_not, ite_self]
        rw [sg_168_68]
        have hw := wayS_bd s c (-1) cell
        by_cases x4 : wayS s c (-1) cell = -1
        · rw [if_pos (by rw [x4]), if_pos x4, sg_168_77]
        · rw [if_neg (by rw [jI_eq (by omega) (by omega) (by omega) (by omega)]; exact x4), if_neg x4, sg_168_77]
    · rw [if_neg (by rw [jI_eq (by omega) (by omega) (by omega) (by omega)]; exact x2), if_pos x2]
  · rw [if_neg (by rw [jI_eq0 (by omega) (by omega)]; exact x1), if_pos x1]
theorem sp_243 {D : Int} (hK : okK (J 355)) (hD : okD D k (J 355)) {p c cell : Int} (p0 : 0 ≤ p) (p1 : p < J 355 6) (c0 : 0 ≤ c) (c1 : c < J 355 4) (l0 : 0 ≤ cell) (l1 : cell < nC (J 355) c) : ∃ f, (prb (J 355) p c cell = 0 → f cell = wayS (J 355) c (-1) cell) ∧ ∀ Q : zO → zI → Prop, wz W 243 0 [.ref 353, .int (jI p), .int (jI c), .int (jI cell)] [] (jm J) Q = Q (oI (prb (J 355) p c cell)) (jm (jrow J 358 f)) := by
  obtain ⟨⟨a1, a2, a3, a4, a5, a6⟩, hT, hV, hP, hW, hL, hQ, hN⟩ := hD
  obtain ⟨e, n1, n2, rr1, rr2, w1, w2, c3⟩ := nC_eq hK c0 c1
  obtain ⟨q1, q2, q3, q4, q5, q6, -⟩ := hP p p0 p1
  have hcell := ok_cell hL hP c0 c3 l0 (show cell < 24 by omega)
  unfold prb
  by_cases x1 : J 355 (72 + 7 * p + 2) = 0
  · by_cases x2 : J 355 (400 + 24 * c + cell) = -1
    · cases hsf : sfB (J 355) c cell (J 355 (72 + 7 * p)) (-1) with
      | false =>
        refine ⟨J 358, fun h9 => ?_, fun Q => ?_⟩
        · rw [if_neg (fun h9 => h9 x1), if_neg (fun h9 => h9 x2), if_pos rfl] at h9
          omega
        · rw [sg_243_0, sp_221 (by omega) p0 (by omega)]
          simp only [zk_l, zk_r, Option.toList_some, Option.toList_none, List.cons_append, List.nil_append, zrokB, zrokB0, zrokB1, zrokJ0, zrokJ1, and_true, true_and, and_self, if_true, if_false, b2_0, b2_1, b2_not, ite_self]
          rw [sg_243_6, if_pos (by rw [x1]; rfl), if_neg (fun h9 => h9 x1), sp_226 (by omega) c0 l0]
          simp only [zk_l, zk_r, Option.toList_some, Option.toList_none, List.cons_append, List.nil_append, zrokB, zrokB0, zrokB1, zrokJ0, zrokJ1, and_true, true_and, and_self, if_true, if_false, b2_0, b2_1, b2_not, ite_self]
          rw [sg_243_17, if_pos (by rw [x2]), if_neg (fun h9 => h9 x2), sp_221 (by omega) p0 (by omega)]
          simp only [Int.add_zero, zk_l, zk_r, Option.toList_some, Option.toList_none, List.cons_append, List.nil_append, zrokB, zrokB0, zrokB1, zrokJ0, zrokJ1, and_true, true_and, and_self, if_true, if_false, b2_0, b2_1, b2_not, ite_self]
          rw [sg_243_32, sp_230 hK hL hP a4 c0 c1 l0 (by omega) q1 q2 (by omega) (by omega)]
          simp only [zk_l, zk_r, Option.toList_some, Option.toList_none, List.cons_append, List.nil_append, zrokB, zrokB0, zrokB1, zrokJ0, zrokJ1, and_true, true_and, and_self, if_true, if_false, b2_0, b2_1, b2_not, ite_self]
          rw [sg_243_36, hsf, if_pos (by decide)]
          first | rw [if_pos rfl, jrow_id] | rw [jrow_id]
      | true =>
        obtain ⟨x', y1, y2⟩ := sp_234 (W := W) hK (own := -1) c0 c1 (ok_smC hL hP a4 c0 c3) (by omega) (by omega) l0 l1
        refine ⟨x', fun _ => y1 cell l0 l1, fun Q => ?_⟩
        rw [sg_243_0, sp_221 (by omega) p0 (by omega)]
        simp only [zk_l, zk_r, Option.toList_some, Option.toList_none, List.cons_append, List.nil_append, zrokB, zrokB0, zrokB1, zrokJ0, zrokJ1, and_true, true_and, and_self, if_true, if_false, b2_0, b2_1, b2_not, ite_self]
        rw [sg_243_6, if_pos (by rw [x1]; rfl), if_neg (fun h9 => h9 x1), sp_226 (by omega) c0 l0]
        simp only [zk_l, zk_r, Option.toList_some, Option.toList_none, List.cons_append, List.nil_append, zrokB, zrokB0, zrokB1, zrokJ0, zrokJ1, and_true, true_and, and_self, if_true, if_false, b2_0, b2_1, b2_not, ite_self]
        rw [sg_243_17, if_pos (by rw [x2]), if_neg (fun h9 => h9 x2), sp_221 (by omega) p0 (by omega)]
        simp only [Int.add_zero, zk_l, zk_r, Option.toList_some, Option.toList_none, List.cons_append, List.nil_append, zrokB, zrokB0, zrokB1, zrokJ0, zrokJ1, and_true, true_and, and_self, if_true, if_false, b2_0, b2_1, b2_not, ite_self]
        rw [sg_243_32, sp_230 hK hL hP a4 c0 c1 l0 (by omega) q1 q2 (by omega) (by omega)]
        simp only [zk_l, zk_r, Option.toList_some, Option.toList_none, List.cons_append, List.nil_append, zrokB, zrokB0, zrokB1, zrokJ0, zrokJ1, and_true, true_and, and_self, if_true, if_false, b2_0, b2_1, b2_not, ite_self]
        rw [sg_243_36, hsf, if_neg (by decide), if_neg (by decide), y2]
        simp only [zk_l, zk_r, Option.toList_some, Option.toList_none, List.cons_append, List.nil_append, zrokB, zrokB0, zrokB1, zrokJ0, zrokJ1, and_true, true_and, and_self, if_true, if_false, b2_0, b2_1, b2_not, ite_self]
        rw [sg_243_48]
        have hw := wayS_bd (J 355) c (-1) cell
        by_cases x4 : wayS (J 355) c (-1) cell = -1
        · rw [if_pos (by rw [x4]), if_pos x4, sg_243_57]
        · rw [if_neg (by rw [jI_eq (by omega) (by omega) (by omega) (by omega)]; exact x4), if_neg x4, sg_243_57]
    · refine ⟨J 358, fun h9 => ?_, fun Q => ?_⟩
      · rw [if_neg (fun h9 => h9 x1), if_pos x2] at h9
        omega
      · rw [sg_243_0, sp_221 (by omega) p0 (by omega)]
        simp only [zk_l, zk_r, Option.toList_some, Option.toList_none, List.cons_append, List.nil_append, zrokB, zrokB0, zrokB1, zrokJ0, zrokJ1, and_true, true_and, and_self, if_true, if_false, b2_0, b2_1, b2_not, ite_self]
        rw [sg_243_6, if_pos (by rw [x1]; rfl), if_neg (fun h9 => h9 x1), sp_226 (by omega) c0 l0]
        simp only [zk_l, zk_r, Option.toList_some, Option.toList_none, List.cons_append, List.nil_append, zrokB, zrokB0, zrokB1, zrokJ0, zrokJ1, and_true, true_and, and_self, if_true, if_false, b2_0, b2_1, b2_not, ite_self]
        rw [sg_243_17, if_neg (by rw [jI_eq (by omega) (by omega) (by omega) (by omega)]; exact x2), if_pos x2, jrow_id]
  · refine ⟨J 358, fun h9 => ?_, fun Q => ?_⟩
    · rw [if_pos x1] at h9
      omega
    · rw [sg_243_0, sp_221 (by omega) p0 (by omega)]
      simp only [zk_l, zk_r, Option.toList_some, Option.toList_none, List.cons_append, List.nil_append, zrokB, zrokB0, zrokB1, zrokJ0, zrokJ1, and_true, true_and, and_self, if_true, if_false, b2_0, b2_1, b2_not, ite_self]
      rw [sg_243_6, if_neg (by rw [jI_eq0 (by omega) (by omega)]; exact x1), if_pos x1, jrow_id]

theorem op_shippedCount (hk : k ≤ 30000) : Op W k [] 121 278 [.ref 0] [.ref 353] := by
  refine Op.q (fun J g t => ?_)
  obtain ⟨-, t2, t3, -⟩ := id t
  obtain ⟨a1', a2', a3', a4', a5', a6'⟩ := t3.1
  obtain ⟨b1, b2, b3, b4, b5, b6, b7, b8, b9, b10, b11, b12⟩ := t2.1
  obtain ⟨-, hS, hU, -⟩ := id g
  obtain ⟨d1, d2, d3, hpl, hq, hc, ho⟩ := id hS
  have hcx := GC_cx g t hk
  have hN := t3.2.2.2.2.2.2.2
  refine ⟨oI (J 355 9), J, J 355 9, jrow J 353 (sset (J 353) 0 0), fun Q => ?_, fun Q => ?_, kp_thr, mt_ok⟩
  · rw [sg_121_0, sp_72 hcx (by decide) (by decide), ← hN.1]
    simp only [zk_l, zk_r, Option.toList_some, Option.toList_none, List.cons_append, List.nil_append, zrokB, zrokB0, zrokB1, zrokJ0, zrokJ1, and_true, true_and, and_self, if_true, if_false, b2_0, b2_1, b2_not, ite_self]
    rw [sg_121_8]
  · rw [sg_278_0]
    simp (disch := first | assumption | omega) only [zk_l, zk_r, Option.toList_some, Option.toList_none, List.cons_append, List.nil_append, zrokB, zrokB0, zrokB1, zrokJ0, zrokJ1, and_true, true_and, and_self, if_true, if_false, b2_0, b2_1, b2_not, ite_self, Int.add_zero, jI_nat, jI_add, jI_sub, jI_mul, jI_neg, jI_lt, jI_le, jI_eq, jI_lt0, jI_0lt, jI_le0, jI_0le, jI_eq0, jI_in, jI_dv, i_mod, jI_cl, jm_n, jz_n, i_lit, i_c0, i_c1, Int.toNat_of_nonneg, Int.toNat_natCast, jrow_same, jrow_ne, jrow_jrow, sset_eq, sset_ne]

theorem op_discardedCount (hk : k ≤ 30000) : Op W k [] 122 279 [.ref 0] [.ref 353] := by
  refine Op.q (fun J g t => ?_)
  obtain ⟨-, t2, t3, -⟩ := id t
  obtain ⟨a1', a2', a3', a4', a5', a6'⟩ := t3.1
  obtain ⟨b1, b2, b3, b4, b5, b6, b7, b8, b9, b10, b11, b12⟩ := t2.1
  obtain ⟨-, hS, hU, -⟩ := id g
  obtain ⟨d1, d2, d3, hpl, hq, hc, ho⟩ := id hS
  have hcx := GC_cx g t hk
  have hN := t3.2.2.2.2.2.2.2
  refine ⟨oI (J 355 10), J, J 355 10, jrow J 353 (sset (J 353) 0 0), fun Q => ?_, fun Q => ?_, kp_thr, mt_ok⟩
  · rw [sg_122_0, sp_72 hcx (by decide) (by decide), ← hN.2]
    simp only [zk_l, zk_r, Option.toList_some, Option.toList_none, List.cons_append, List.nil_append, zrokB, zrokB0, zrokB1, zrokJ0, zrokJ1, and_true, true_and, and_self, if_true, if_false, b2_0, b2_1, b2_not, ite_self]
    rw [sg_122_8]
  · rw [sg_279_0]
    simp (disch := first | assumption | omega) only [zk_l, zk_r, Option.toList_some, Option.toList_none, List.cons_append, List.nil_append, zrokB, zrokB0, zrokB1, zrokJ0, zrokJ1, and_true, true_and, and_self, if_true, if_false, b2_0, b2_1, b2_not, ite_self, Int.add_zero, jI_nat, jI_add, jI_sub, jI_mul, jI_neg, jI_lt, jI_le, jI_eq, jI_lt0, jI_0lt, jI_le0, jI_0le, jI_eq0, jI_in, jI_dv, i_mod, jI_cl, jm_n, jz_n, i_lit, i_c0, i_c1, Int.toNat_of_nonneg, Int.toNat_natCast, jrow_same, jrow_ne, jrow_jrow, sset_eq, sset_ne]

theorem op_spoiledCount (hk : k ≤ 30000) : Op W k [] 138 269 [.ref 0] [.ref 353, .float 0, .float 0] := by
  refine Op.q (fun J g t => ?_)
  obtain ⟨-, t2, t3, -⟩ := id t
  obtain ⟨a1', a2', a3', a4', a5', a6'⟩ := t3.1
  obtain ⟨b1, b2, b3, b4, b5, b6, b7, b8, b9, b10, b11, b12⟩ := t2.1
  obtain ⟨-, hS, hU, -⟩ := id g
  obtain ⟨d1, d2, d3, hpl, hq, hc, ho⟩ := id hS
  have hcx := GC_cx g t hk
  refine ⟨oI (cntZ (J 355) (J 355 6).toNat), J, cntZ (J 355) (J 355 6).toNat, jrow J 353 (sset (J 353) 0 0), fun Q => ?_, fun Q => ?_, kp_thr, mt_ok⟩
  · rw [sg_138_0, sp_74 hcx]
    simp only [zk_l, zk_r, Option.toList_some, Option.toList_none, List.cons_append, List.nil_append, zrokB, zrokB0, zrokB1, zrokJ0, zrokJ1, and_true, true_and, and_self, if_true, if_false, b2_0, b2_1, b2_not, ite_self]
    rw [sg_138_7]
  · rw [sg_269_0]
    simp (disch := first | assumption | omega) only [jI_cl, jm_n, jz_n, i_lit, i_c0, i_c1, Int.toNat_of_nonneg, Int.toNat_natCast, jrow_same, jrow_ne, jrow_jrow, sset_eq, sset_ne]
    have e5 : jrow J 353 (sset (J 353) 0 0) 355 = J 355 := jrow_ne (by decide)
    have key := zloop (f := fun i => wz W 269 9 [.ref 353, .int (jI (cntZ (J 355) i)), .int (jI i)] [] (jm (jrow J 353 (sset (J 353) 0 0))) Q) (J 355 6).toNat (fun i hi => by
      try simp only
      obtain ⟨q1, q2, q3, q4, q5, q6, -⟩ := t3.2.2.2.1 i (by omega) (by omega)
      rw [sg_269_9]
      simp (disch := first | assumption | omega) only [zk_l, zk_r, Option.toList_some, Option.toList_none, List.cons_append, List.nil_append, zrokB, zrokB0, zrokB1, zrokJ0, zrokJ1, and_true, true_and, and_self, if_true, if_false, b2_0, b2_1, b2_not, ite_self, Int.add_zero, jI_nat, jI_add, jI_sub, jI_mul, jI_neg, jI_lt, jI_le, jI_eq, jI_lt0, jI_0lt, jI_le0, jI_0le, jI_eq0, jI_in, jI_dv, i_mod, jI_cl, jm_n, jz_n, i_lit, i_c0, i_c1, Int.toNat_of_nonneg, Int.toNat_natCast, jrow_same, jrow_ne, jrow_jrow, sset_eq, sset_ne]
      rw [if_neg (by omega), sp_264 za_355 (by omega) (by omega) (by rw [e5]; exact q5) (by rw [e5]; exact q6), e5]
      simp only [zk_l, zk_r, Option.toList_some, Option.toList_none, List.cons_append, List.nil_append, zrokB, zrokB0, zrokB1, zrokJ0, zrokJ1, and_true, true_and, and_self, if_true, if_false, b2_0, b2_1, b2_not, ite_self]
      rw [sg_269_29, sp_236 za_355 (by rw [e5]; exact t2) (by rw [e5]; exact t3) (by decide) (by omega) (by rw [e5]; omega), e5]
      simp only [zk_l, zk_r, Option.toList_some, Option.toList_none, List.cons_append, List.nil_append, zrokB, zrokB0, zrokB1, zrokJ0, zrokJ1, and_true, true_and, and_self, if_true, if_false, b2_0, b2_1, b2_not, ite_self]
      rw [sg_269_40]
      simp only [sg_269_47, sg_269_48, zk_l, zk_r, Option.toList_some, Option.toList_none, List.cons_append, List.nil_append, zrokB, zrokB0, zrokB1, zrokJ0, zrokJ1, and_true, true_and, and_self, if_true, if_false, b2_0, b2_1, b2_not, ite_self, jI_add, Int.add_zero]
      unfold cntZ
      rw [cnt_step]
      cases thr (J 355) i <;> cases spo (J 355) i <;> rfl)
    refine Eq.trans key ?_
    rw [sg_269_9]
    simp (disch := first | assumption | omega) only [zk_l, zk_r, Option.toList_some, Option.toList_none, List.cons_append, List.nil_append, zrokB, zrokB0, zrokB1, zrokJ0, zrokJ1, and_true, true_and, and_self, if_true, if_false, b2_0, b2_1, b2_not, ite_self, Int.add_zero, jI_nat, jI_add, jI_sub, jI_mul, jI_neg, jI_lt, jI_le, jI_eq, jI_lt0, jI_0lt, jI_le0, jI_0le, jI_eq0, jI_in, jI_dv, i_mod, jI_cl, jm_n, jz_n, i_lit, i_c0, i_c1, Int.toNat_of_nonneg, Int.toNat_natCast, jrow_same, jrow_ne, jrow_jrow, sset_eq, sset_ne]
    rw [if_pos (by omega)]
theorem op_undoCount (hk : k ≤ 30000) : Op W k [] 156 325 [.ref 0] [.ref 353] := by
  refine Op.q (fun J g t => ?_)
  obtain ⟨-, t2, t3, -⟩ := id t
  obtain ⟨a1', a2', a3', a4', a5', a6'⟩ := t3.1
  obtain ⟨b1, b2, b3, b4, b5, b6, b7, b8, b9, b10, b11, b12⟩ := t2.1
  obtain ⟨-, hS, hU, -⟩ := id g
  obtain ⟨d1, d2, d3, hpl, hq, hc, ho⟩ := id hS
  have hcx := GC_cx g t hk
  obtain ⟨-, -, -, ⟨h5, -⟩, -⟩ := id g
  refine ⟨oI (J 353 15), J, J 353 15, jrow J 353 (sset (J 353) 0 0), fun Q => ?_, fun Q => ?_, kp_thr, mt_ok⟩
  · rw [sg_156_0]
    simp (disch := first | assumption | omega) only [h5, jI_cl, jm_n, jz_n, i_lit, i_c0, i_c1, Int.toNat_of_nonneg, Int.toNat_natCast, jrow_same, jrow_ne, jrow_jrow, sset_eq, sset_ne]
  · rw [sg_325_0]
    simp (disch := first | assumption | omega) only [zk_l, zk_r, Option.toList_some, Option.toList_none, List.cons_append, List.nil_append, zrokB, zrokB0, zrokB1, zrokJ0, zrokJ1, and_true, true_and, and_self, if_true, if_false, b2_0, b2_1, b2_not, ite_self, Int.add_zero, jI_nat, jI_add, jI_sub, jI_mul, jI_neg, jI_lt, jI_le, jI_eq, jI_lt0, jI_0lt, jI_le0, jI_0le, jI_eq0, jI_in, jI_dv, i_mod, jI_cl, jm_n, jz_n, i_lit, i_c0, i_c1, Int.toNat_of_nonneg, Int.toNat_natCast, jrow_same, jrow_ne, jrow_jrow, sset_eq, sset_ne]
theorem op_chamberOf (hk : k ≤ 30000) {a : Int} (a1 : -2147483648 ≤ a) (a2 : a < 2147483648) : Op W k [0] 131 291 [.ref 0, .int (jI a)] [.ref 353, .int (jI a), .float 0] := by
  refine Op.q (fun J g t => ?_)
  obtain ⟨-, t2, t3, -⟩ := id t
  obtain ⟨a1', a2', a3', a4', a5', a6'⟩ := t3.1
  obtain ⟨b1, b2, b3, b4, b5, b6, b7, b8, b9, b10, b11, b12⟩ := t2.1
  obtain ⟨-, hS, hU, -⟩ := id g
  obtain ⟨d1, d2, d3, hpl, hq, hc, ho⟩ := id hS
  have hcx := GC_cx g t hk
  by_cases v : 0 ≤ a ∧ a < J 355 6
  · have hw := okW_or t3.2.2.2.2.1 t2 v.1 v.2
    refine ⟨oI (chOf (J 355 (72 + 7 * a + 3))), J, chOf (J 355 (72 + 7 * a + 3)), jrow J 353 (sset (J 353) 0 0), fun Q => ?_, fun Q => ?_, kp_thr, mt_ok⟩
    · rw [sg_131_0, sp_163v v.1 (by omega) (by omega)]
      simp only [zk_l, zk_r, Option.toList_some, Option.toList_none, List.cons_append, List.nil_append, zrokB, zrokB0, zrokB1, zrokJ0, zrokJ1, and_true, true_and, and_self, if_true, if_false, b2_0, b2_1, b2_not, ite_self]
      rw [sg_131_5, sp_45 (zStk_r5 zStk_49) v.1 (by omega) (by decide), (hpl a v.1 v.2).2.2.1]
      simp only [zk_l, zk_r, Option.toList_some, Option.toList_none, List.cons_append, List.nil_append, zrokB, zrokB0, zrokB1, zrokJ0, zrokJ1, and_true, true_and, and_self, if_true, if_false, b2_0, b2_1, b2_not, ite_self]
      rw [sg_131_16]
    · rw [sg_291_0, sp_288v v.1 v.2 a4' (by omega) (by omega)]
      simp only [zk_l, zk_r, Option.toList_some, Option.toList_none, List.cons_append, List.nil_append, zrokB, zrokB0, zrokB1, zrokJ0, zrokJ1, and_true, true_and, and_self, if_true, if_false, b2_0, b2_1, b2_not, ite_self]
      rw [sg_291_6]
      simp (disch := first | assumption | omega) only [zk_l, zk_r, Option.toList_some, Option.toList_none, List.cons_append, List.nil_append, zrokB, zrokB0, zrokB1, zrokJ0, zrokJ1, and_true, true_and, and_self, if_true, if_false, b2_0, b2_1, b2_not, ite_self, Int.add_zero, jI_nat, jI_add, jI_sub, jI_mul, jI_neg, jI_lt, jI_le, jI_eq, jI_lt0, jI_0lt, jI_le0, jI_0le, jI_eq0, jI_in, jI_dv, i_mod, jI_cl, jm_n, jz_n, i_lit, i_c0, i_c1, Int.toNat_of_nonneg, Int.toNat_natCast, jrow_same, jrow_ne, jrow_jrow, sset_eq, sset_ne]
      rw [if_pos (by decide)]
      unfold chOf
      rcases hw with hw | hw
      · rw [if_pos hw, if_pos hw, sg_291_31]
      · rw [if_neg (by omega), if_neg (by omega), sg_291_31]
  · refine ⟨oE 0, J, 0, jrow J 353 (sset (J 353) 0 1), fun Q => ?_, fun Q => ?_, kp_thr, mt_er 0 0 rfl rfl⟩
    · rw [sg_131_0, sp_163n a1 a2 (by rw [d2]; exact v) (by omega) (by omega)]
      simp only [zk_l, zk_r, Option.toList_some, Option.toList_none, List.cons_append, List.nil_append, zrokB, zrokB0, zrokB1, zrokJ0, zrokJ1, and_true, true_and, and_self, if_true, if_false, b2_0, b2_1, b2_not, ite_self]
    · rw [sg_291_0, sp_288n a1 a2 v a3' a4']
      simp only [zk_l, zk_r, Option.toList_some, Option.toList_none, List.cons_append, List.nil_append, zrokB, zrokB0, zrokB1, zrokJ0, zrokJ1, and_true, true_and, and_self, if_true, if_false, b2_0, b2_1, b2_not, ite_self]
      rw [sg_291_6]
      simp (disch := first | assumption | omega) only [zk_l, zk_r, Option.toList_some, Option.toList_none, List.cons_append, List.nil_append, zrokB, zrokB0, zrokB1, zrokJ0, zrokJ1, and_true, true_and, and_self, if_true, if_false, b2_0, b2_1, b2_not, ite_self, Int.add_zero, jI_nat, jI_add, jI_sub, jI_mul, jI_neg, jI_lt, jI_le, jI_eq, jI_lt0, jI_0lt, jI_le0, jI_0le, jI_eq0, jI_in, jI_dv, i_mod, jI_cl, jm_n, jz_n, i_lit, i_c0, i_c1, Int.toNat_of_nonneg, Int.toNat_natCast, jrow_same, jrow_ne, jrow_jrow, sset_eq, sset_ne]
      rw [if_neg (by decide), sg_291_31]
theorem op_cellOf (hk : k ≤ 30000) {a : Int} (a1 : -2147483648 ≤ a) (a2 : a < 2147483648) : Op W k [0] 132 292 [.ref 0, .int (jI a), .float 0, .float 0] [.ref 353, .int (jI a), .float 0, .float 0] := by
  refine Op.q (fun J g t => ?_)
  obtain ⟨-, t2, t3, -⟩ := id t
  obtain ⟨a1', a2', a3', a4', a5', a6'⟩ := t3.1
  obtain ⟨b1, b2, b3, b4, b5, b6, b7, b8, b9, b10, b11, b12⟩ := t2.1
  obtain ⟨-, hS, hU, -⟩ := id g
  obtain ⟨d1, d2, d3, hpl, hq, hc, ho⟩ := id hS
  have hcx := GC_cx g t hk
  by_cases v : 0 ≤ a ∧ a < J 355 6
  · have hw := okW_or t3.2.2.2.2.1 t2 v.1 v.2
    obtain ⟨f1, f2, f3, f4, -⟩ := hpl a v.1 v.2
    obtain ⟨q1, q2, q3, q4, q5, q6, -⟩ := t3.2.2.2.1 a v.1 v.2
    rcases hw with hw | ⟨x0, x1, x2, x3, x4⟩
    · have hn1 : J 355 (72 + 7 * a + 2) ≠ 1 := fun h9 => by
        have := (t3.2.2.2.2.1 a v.1 v.2).1 h9
        omega
      refine ⟨oI (-1), J, -1, jrow J 353 (sset (J 353) 0 0), fun Q => ?_, fun Q => ?_, kp_thr, mt_ok⟩
      · rw [sg_132_0, sp_163v v.1 (by omega) (by omega)]
        simp only [zk_l, zk_r, Option.toList_some, Option.toList_none, List.cons_append, List.nil_append, zrokB, zrokB0, zrokB1, zrokJ0, zrokJ1, and_true, true_and, and_self, if_true, if_false, b2_0, b2_1, b2_not, ite_self]
        rw [sg_132_5, sp_45 (zStk_r4 zStk_49) v.1 (by omega) (by decide), f2]
        simp only [zk_l, zk_r, Option.toList_some, Option.toList_none, List.cons_append, List.nil_append, zrokB, zrokB0, zrokB1, zrokJ0, zrokJ1, and_true, true_and, and_self, if_true, if_false, b2_0, b2_1, b2_not, ite_self]
        rw [sg_132_16, if_neg (by rw [jI_eq (by omega) (by omega) (by omega) (by omega)]; exact hn1)]
      · rw [sg_292_0, sp_288v v.1 v.2 a4' (by omega) (by omega), hw]
        simp only [zk_l, zk_r, Option.toList_some, Option.toList_none, List.cons_append, List.nil_append, zrokB, zrokB0, zrokB1, zrokJ0, zrokJ1, and_true, true_and, and_self, if_true, if_false, b2_0, b2_1, b2_not, ite_self]
        rw [sg_292_6]
        simp (disch := first | assumption | omega) only [zk_l, zk_r, Option.toList_some, Option.toList_none, List.cons_append, List.nil_append, zrokB, zrokB0, zrokB1, zrokJ0, zrokJ1, and_true, true_and, and_self, if_true, if_false, b2_0, b2_1, b2_not, ite_self, Int.add_zero, jI_nat, jI_add, jI_sub, jI_mul, jI_neg, jI_lt, jI_le, jI_eq, jI_lt0, jI_0lt, jI_le0, jI_0le, jI_eq0, jI_in, jI_dv, i_mod, jI_cl, jm_n, jz_n, i_lit, i_c0, i_c1, Int.toNat_of_nonneg, Int.toNat_natCast, jrow_same, jrow_ne, jrow_jrow, sset_eq, sset_ne]
        rw [sg_292_19]
        simp (disch := first | assumption | omega) only [zk_l, zk_r, Option.toList_some, Option.toList_none, List.cons_append, List.nil_append, zrokB, zrokB0, zrokB1, zrokJ0, zrokJ1, and_true, true_and, and_self, if_true, if_false, b2_0, b2_1, b2_not, ite_self, Int.add_zero, jI_nat, jI_add, jI_sub, jI_mul, jI_neg, jI_lt, jI_le, jI_eq, jI_lt0, jI_0lt, jI_le0, jI_0le, jI_eq0, jI_in, jI_dv, i_mod, jI_cl, jm_n, jz_n, i_lit, i_c0, i_c1, Int.toNat_of_nonneg, Int.toNat_natCast, jrow_same, jrow_ne, jrow_jrow, sset_eq, sset_ne]
        rw [if_pos (by decide), sg_292_31]
    · generalize hx : J 355 (72 + 7 * a + 3) = x at *
      obtain ⟨e, n1, n2, r1, r2, w1, w2, c3⟩ := nC_eq t2 (c := x / 24) (by omega) x1
      have hcb : zChb (5 + 19 + (x / 24).toNat) := zStp_c zStp_5 (by omega)
      obtain ⟨-, -, -, -, -, -, -, -, huc, -⟩ := id hU
      obtain ⟨u0, u1, u2, -⟩ := huc (x / 24) (by omega) x1
      have hch : chOf x = x / 24 := by unfold chOf; rw [if_neg (by omega)]
      unfold gC at w1 w2
      generalize hC : J 355 (12 + 8 * (x / 24) + 2) = C at *
      refine ⟨oI (10 * (x % 24 / C) + x % 24 % C), J, 10 * (x % 24 / C) + x % 24 % C, jrow J 353 (sset (J 353) 0 0), fun Q => ?_, fun Q => ?_, kp_thr, mt_ok⟩
      · rw [sg_132_0, sp_163v v.1 (by omega) (by omega)]
        simp only [zk_l, zk_r, Option.toList_some, Option.toList_none, List.cons_append, List.nil_append, zrokB, zrokB0, zrokB1, zrokJ0, zrokJ1, and_true, true_and, and_self, if_true, if_false, b2_0, b2_1, b2_not, ite_self]
        rw [sg_132_5, sp_45 (zStk_r4 zStk_49) v.1 (by omega) (by decide), f2, x4]
        simp only [zk_l, zk_r, Option.toList_some, Option.toList_none, List.cons_append, List.nil_append, zrokB, zrokB0, zrokB1, zrokJ0, zrokJ1, and_true, true_and, and_self, if_true, if_false, b2_0, b2_1, b2_not, ite_self]
        rw [sg_132_16, if_pos rfl, sp_45 (zStk_r5 zStk_49) v.1 (by omega) (by decide), f3, hch]
        simp only [zk_l, zk_r, Option.toList_some, Option.toList_none, List.cons_append, List.nil_append, zrokB, zrokB0, zrokB1, zrokJ0, zrokJ1, and_true, true_and, and_self, if_true, if_false, b2_0, b2_1, b2_not, ite_self]
        rw [sg_132_37 (hqt0 := zStp_5), sp_53 zStp_5 (by omega) c3]
        simp only [zk_l, zk_r, Option.toList_some, Option.toList_none, List.cons_append, List.nil_append, zrokB, zrokB0, zrokB1, zrokJ0, zrokJ1, and_true, true_and, and_self, if_true, if_false, b2_0, b2_1, b2_not, ite_self]
        rw [sg_132_40 (hqt0 := hcb), sp_45 (zStk_r6 zStk_49) v.1 (by omega) (by decide), f4, ce_eq x0]
        simp only [zk_l, zk_r, Option.toList_some, Option.toList_none, List.cons_append, List.nil_append, zrokB, zrokB0, zrokB1, zrokJ0, zrokJ1, and_true, true_and, and_self, if_true, if_false, b2_0, b2_1, b2_not, ite_self]
        rw [sg_132_55]
        have hx24 : 0 ≤ x % 24 ∧ x % 24 < 24 := by omega
        generalize x % 24 = y at *
        simp (disch := first | assumption | omega) only [u2, zk_l, zk_r, Option.toList_some, Option.toList_none, List.cons_append, List.nil_append, zrokB, zrokB0, zrokB1, zrokJ0, zrokJ1, and_true, true_and, and_self, if_true, if_false, b2_0, b2_1, b2_not, ite_self, Int.add_zero, jI_nat, jI_add, jI_sub, jI_mul, jI_neg, jI_lt, jI_le, jI_eq, jI_lt0, jI_0lt, jI_le0, jI_0le, jI_eq0, jI_in, jI_dv, i_mod, jI_cl, jm_n, jz_n, i_lit, i_c0, i_c1, Int.toNat_of_nonneg, Int.toNat_natCast, jrow_same, jrow_ne, jrow_jrow, sset_eq, sset_ne]
        rw [if_neg (by omega)]
        obtain rfl | rfl | rfl | rfl : C = 1 ∨ C = 2 ∨ C = 3 ∨ C = 4 := by omega
        all_goals
          simp (disch := first | assumption | omega) only [sg_132_74, Int.add_zero, jI_nat, jI_add, jI_sub, jI_mul, jI_neg, jI_lt, jI_le, jI_eq, jI_lt0, jI_0lt, jI_le0, jI_0le, jI_eq0, jI_in, jI_dv, i_mod, ne_eq, not_false_eq_true, Int.reduceEq, true_and]
      · rw [sg_292_0, sp_288v v.1 v.2 a4' (by omega) (by omega), hx]
        simp only [zk_l, zk_r, Option.toList_some, Option.toList_none, List.cons_append, List.nil_append, zrokB, zrokB0, zrokB1, zrokJ0, zrokJ1, and_true, true_and, and_self, if_true, if_false, b2_0, b2_1, b2_not, ite_self]
        rw [sg_292_6]
        have hx24 : 0 ≤ x % 24 ∧ x % 24 < 24 := by omega
        simp (disch := first | assumption | omega) only [zk_l, zk_r, Option.toList_some, Option.toList_none, List.cons_append, List.nil_append, zrokB, zrokB0, zrokB1, zrokJ0, zrokJ1, and_true, true_and, and_self, if_true, if_false, b2_0, b2_1, b2_not, ite_self, Int.add_zero, jI_nat, jI_add, jI_sub, jI_mul, jI_neg, jI_lt, jI_le, jI_eq, jI_lt0, jI_0lt, jI_le0, jI_0le, jI_eq0, jI_in, jI_dv, i_mod, jI_cl, jm_n, jz_n, i_lit, i_c0, i_c1, Int.toNat_of_nonneg, Int.toNat_natCast, jrow_same, jrow_ne, jrow_jrow, sset_eq, sset_ne]
        rw [if_neg (by decide), if_neg (by omega), sp_219 (by omega) (by omega) (by omega) (by omega), jrow_ne (by decide), hC]
        simp only [zk_l, zk_r, Option.toList_some, Option.toList_none, List.cons_append, List.nil_append, zrokB, zrokB0, zrokB1, zrokJ0, zrokJ1, and_true, true_and, and_self, if_true, if_false, b2_0, b2_1, b2_not, ite_self]
        rw [sg_292_41]
        simp (disch := first | assumption | omega) only [Int.add_zero, jI_nat, jI_add, jI_sub, jI_mul, jI_neg, jI_lt, jI_le, jI_eq, jI_lt0, jI_0lt, jI_le0, jI_0le, jI_eq0, jI_in, jI_dv, i_mod]
        generalize x % 24 = y at *
        obtain rfl | rfl | rfl | rfl : C = 1 ∨ C = 2 ∨ C = 3 ∨ C = 4 := by omega
        all_goals
          simp (disch := first | assumption | omega) only [Int.add_zero, jI_nat, jI_add, jI_sub, jI_mul, jI_neg, jI_lt, jI_le, jI_eq, jI_lt0, jI_0lt, jI_le0, jI_0le, jI_eq0, jI_in, jI_dv, i_mod, ne_eq, not_false_eq_true, Int.reduceEq, true_and]
  · refine ⟨oE 0, J, 0, jrow J 353 (sset (J 353) 0 1), fun Q => ?_, fun Q => ?_, kp_thr, mt_er 0 0 rfl rfl⟩
    · rw [sg_132_0, sp_163n a1 a2 (by rw [d2]; exact v) (by omega) (by omega)]
      simp only [zk_l, zk_r, Option.toList_some, Option.toList_none, List.cons_append, List.nil_append, zrokB, zrokB0, zrokB1, zrokJ0, zrokJ1, and_true, true_and, and_self, if_true, if_false, b2_0, b2_1, b2_not, ite_self]
    · rw [sg_292_0, sp_288n a1 a2 v a3' a4']
      simp only [zk_l, zk_r, Option.toList_some, Option.toList_none, List.cons_append, List.nil_append, zrokB, zrokB0, zrokB1, zrokJ0, zrokJ1, and_true, true_and, and_self, if_true, if_false, b2_0, b2_1, b2_not, ite_self]
      rw [sg_292_6]
      simp (disch := first | assumption | omega) only [zk_l, zk_r, Option.toList_some, Option.toList_none, List.cons_append, List.nil_append, zrokB, zrokB0, zrokB1, zrokJ0, zrokJ1, and_true, true_and, and_self, if_true, if_false, b2_0, b2_1, b2_not, ite_self, Int.add_zero, jI_nat, jI_add, jI_sub, jI_mul, jI_neg, jI_lt, jI_le, jI_eq, jI_lt0, jI_0lt, jI_le0, jI_0le, jI_eq0, jI_in, jI_dv, i_mod, jI_cl, jm_n, jz_n, i_lit, i_c0, i_c1, Int.toNat_of_nonneg, Int.toNat_natCast, jrow_same, jrow_ne, jrow_jrow, sset_eq, sset_ne]
      rw [if_pos (by decide), sg_292_19]
      simp (disch := first | assumption | omega) only [zk_l, zk_r, Option.toList_some, Option.toList_none, List.cons_append, List.nil_append, zrokB, zrokB0, zrokB1, zrokJ0, zrokJ1, and_true, true_and, and_self, if_true, if_false, b2_0, b2_1, b2_not, ite_self, Int.add_zero, jI_nat, jI_add, jI_sub, jI_mul, jI_neg, jI_lt, jI_le, jI_eq, jI_lt0, jI_0lt, jI_le0, jI_0le, jI_eq0, jI_in, jI_dv, i_mod, jI_cl, jm_n, jz_n, i_lit, i_c0, i_c1, Int.toNat_of_nonneg, Int.toNat_natCast, jrow_same, jrow_ne, jrow_jrow, sset_eq, sset_ne]
      rw [if_neg (by decide), sg_292_31]
theorem bI (b : Bool) : oB b = oI (if b = true then 1 else 0) := by unfold oB oI; rw [b2_j]
theorem op_isSpoiled (hk : k ≤ 30000) {a : Int} (a1 : -2147483648 ≤ a) (a2 : a < 2147483648) : Op W k [0] 136 296 [.ref 0, .int (jI a)] [.ref 353, .int (jI a)] := by
  refine Op.q (fun J g t => ?_)
  obtain ⟨-, t2, t3, -⟩ := id t
  obtain ⟨a1', a2', a3', a4', a5', a6'⟩ := t3.1
  obtain ⟨b1, b2, b3, b4, b5, b6, b7, b8, b9, b10, b11, b12⟩ := t2.1
  obtain ⟨-, hS, hU, -⟩ := id g
  obtain ⟨d1, d2, d3, hpl, hq, hc, ho⟩ := id hS
  have hcx := GC_cx g t hk
  have e5 : ∀ f : Int → Int, jrow J 353 f 355 = J 355 := fun f => jrow_ne (by decide)
  by_cases v : 0 ≤ a ∧ a < J 355 6
  · refine ⟨oI (if spo (J 355) a = true then 1 else 0), J, if spo (J 355) a = true then 1 else 0, jrow J 353 (sset (J 353) 0 0), fun Q => ?_, fun Q => ?_, kp_thr, mt_ok⟩
    · rw [sg_136_0, sp_163v v.1 (by omega) (by omega)]
      simp only [zk_l, zk_r, Option.toList_some, Option.toList_none, List.cons_append, List.nil_append, zrokB, zrokB0, zrokB1, zrokJ0, zrokJ1, and_true, true_and, and_self, if_true, if_false, b2_0, b2_1, b2_not, ite_self]
      rw [sg_136_5, sp_73 hcx v.1 v.2]
      simp only [zk_l, zk_r, Option.toList_some, Option.toList_none, List.cons_append, List.nil_append, zrokB, zrokB0, zrokB1, zrokJ0, zrokJ1, and_true, true_and, and_self, if_true, if_false, b2_0, b2_1, b2_not, ite_self]
      rw [sg_136_13, ← bI]
      simp only [zk_l, zk_r, Option.toList_some, Option.toList_none, List.cons_append, List.nil_append, zrokB, zrokB0, zrokB1, zrokJ0, zrokJ1, and_true, true_and, and_self, if_true, if_false, b2_0, b2_1, b2_not, ite_self]
    · rw [sg_296_0]
      simp (disch := first | assumption | omega) only [jI_cl, jm_n, jz_n, i_lit, i_c0, i_c1, Int.toNat_of_nonneg, Int.toNat_natCast, jrow_same, jrow_ne, jrow_jrow, sset_eq, sset_ne]
      rw [sp_217v v.1 (by rw [e5]; exact v.2) (by rw [e5]; exact a4')]
      simp only [zk_l, zk_r, Option.toList_some, Option.toList_none, List.cons_append, List.nil_append, zrokB, zrokB0, zrokB1, zrokJ0, zrokJ1, and_true, true_and, and_self, if_true, if_false, b2_0, b2_1, b2_not, ite_self]
      rw [sg_296_11, sp_178t]
      simp only [zk_l, zk_r, Option.toList_some, Option.toList_none, List.cons_append, List.nil_append, zrokB, zrokB0, zrokB1, zrokJ0, zrokJ1, and_true, true_and, and_self, if_true, if_false, b2_0, b2_1, b2_not, ite_self]
      rw [sg_296_15, if_pos (by decide), sp_236 za_355 (by rw [e5]; exact t2) (by rw [e5]; exact t3) (by decide) v.1 (by rw [e5]; exact v.2), e5]
      simp only [zk_l, zk_r, Option.toList_some, Option.toList_none, List.cons_append, List.nil_append, zrokB, zrokB0, zrokB1, zrokJ0, zrokJ1, and_true, true_and, and_self, if_true, if_false, b2_0, b2_1, b2_not, ite_self]
      rw [sg_296_26]
      simp only [sg_296_33, sg_296_34, zk_l, zk_r, Option.toList_some, Option.toList_none, List.cons_append, List.nil_append, zrokB, zrokB0, zrokB1, zrokJ0, zrokJ1, and_true, true_and, and_self, if_true, if_false, b2_0, b2_1, b2_not, ite_self, b2_0]
      cases spo (J 355) a <;> rfl
  · refine ⟨oE 0, J, 0, jrow J 353 (sset (J 353) 0 1), fun Q => ?_, fun Q => ?_, kp_thr, mt_er 0 0 rfl rfl⟩
    · rw [sg_136_0, sp_163n a1 a2 (by rw [d2]; exact v) (by omega) (by omega)]
      simp only [zk_l, zk_r, Option.toList_some, Option.toList_none, List.cons_append, List.nil_append, zrokB, zrokB0, zrokB1, zrokJ0, zrokJ1, and_true, true_and, and_self, if_true, if_false, b2_0, b2_1, b2_not, ite_self]
    · rw [sg_296_0]
      simp (disch := first | assumption | omega) only [jI_cl, jm_n, jz_n, i_lit, i_c0, i_c1, Int.toNat_of_nonneg, Int.toNat_natCast, jrow_same, jrow_ne, jrow_jrow, sset_eq, sset_ne]
      rw [sp_217n a1 a2 (by rw [e5]; exact v) (by rw [e5]; exact a3') (by rw [e5]; exact a4')]
      simp only [zk_l, zk_r, Option.toList_some, Option.toList_none, List.cons_append, List.nil_append, zrokB, zrokB0, zrokB1, zrokJ0, zrokJ1, and_true, true_and, and_self, if_true, if_false, b2_0, b2_1, b2_not, ite_self]
      rw [sg_296_11, sp_178f]
      simp only [sset_ss, zk_l, zk_r, Option.toList_some, Option.toList_none, List.cons_append, List.nil_append, zrokB, zrokB0, zrokB1, zrokJ0, zrokJ1, and_true, true_and, and_self, if_true, if_false, b2_0, b2_1, b2_not, ite_self, jI_cl, jm_n, jz_n, i_lit, i_c0, i_c1, Int.toNat_of_nonneg, Int.toNat_natCast, jrow_same, jrow_ne, jrow_jrow, sset_eq, sset_ne]
      rw [sg_296_15, if_neg (by decide), sg_296_33, sg_296_34]
      simp only [zk_l, zk_r, Option.toList_some, Option.toList_none, List.cons_append, List.nil_append, zrokB, zrokB0, zrokB1, zrokJ0, zrokJ1, and_true, true_and, and_self, if_true, if_false, b2_0, b2_1, b2_not, ite_self]
theorem op_taints (hk : k ≤ 30000) {a b : Int} (a1 : -2147483648 ≤ a) (a2 : a < 2147483648) (b1q : -2147483648 ≤ b) (b2q : b < 2147483648) : Op W k [0] 126 284 [.ref 0, .int (jI a), .int (jI b)] [.ref 353, .int (jI a), .int (jI b)] := by
  refine Op.q (fun J g t => ?_)
  obtain ⟨-, t2, t3, -⟩ := id t
  obtain ⟨a1', a2', a3', a4', a5', a6'⟩ := t3.1
  obtain ⟨b1, b2, b3, b4, b5, b6, b7, b8, b9, b10, b11, b12⟩ := t2.1
  obtain ⟨-, hS, hU, -⟩ := id g
  obtain ⟨d1, d2, d3, hpl, hq, hc, ho⟩ := id hS
  have hcx := GC_cx g t hk
  have e5 : ∀ f : Int → Int, jrow J 353 f 355 = J 355 := fun f => jrow_ne (by decide)
  have hu0 := hU.1
  by_cases v : 0 ≤ a ∧ a < J 355 5
  · obtain ⟨g0, g1, -⟩ := RU_g hU t2 v.1 v.2
    by_cases w : 0 ≤ b ∧ b < J 355 5
    · obtain ⟨m0, m1, -⟩ := RU_g hU t2 w.1 w.2
      obtain ⟨y1, y2, y3, y4, y5, y6, y7, y8, y9, -⟩ := t2.2.2.1 a v.1 v.2
      obtain ⟨z1, z2, z3, z4, z5, z6, z7, z8, z9, -⟩ := t2.2.2.1 b w.1 w.2
      refine ⟨oI (if tnt (J 355) a b = true then 1 else 0), J, if tnt (J 355) a b = true then 1 else 0, jrow J 353 (sset (J 353) 0 0), fun Q => ?_, fun Q => ?_, kp_thr, mt_ok⟩
      · rw [sg_126_0, sp_162v v.1 (by omega) (by omega)]
        simp only [zk_l, zk_r, Option.toList_some, Option.toList_none, List.cons_append, List.nil_append, zrokB, zrokB0, zrokB1, zrokJ0, zrokJ1, and_true, true_and, and_self, if_true, if_false, b2_0, b2_1, b2_not, ite_self]
        rw [sg_126_5, sp_162v w.1 (by omega) (by omega)]
        simp only [zk_l, zk_r, Option.toList_some, Option.toList_none, List.cons_append, List.nil_append, zrokB, zrokB0, zrokB1, zrokJ0, zrokJ1, and_true, true_and, and_self, if_true, if_false, b2_0, b2_1, b2_not, ite_self]
        rw [sg_126_10, sp_52 zStp_5 v.1 g0]
        simp only [zk_l, zk_r, Option.toList_some, Option.toList_none, List.cons_append, List.nil_append, zrokB, zrokB0, zrokB1, zrokJ0, zrokJ1, and_true, true_and, and_self, if_true, if_false, b2_0, b2_1, b2_not, ite_self]
        rw [sg_126_18 (hqt0 := g1), sp_52 zStp_5 w.1 m0]
        simp only [zk_l, zk_r, Option.toList_some, Option.toList_none, List.cons_append, List.nil_append, zrokB, zrokB0, zrokB1, zrokJ0, zrokJ1, and_true, true_and, and_self, if_true, if_false, b2_0, b2_1, b2_not, ite_self]
        rw [sg_126_26 (hqt0 := g1) (hqt1 := m1), sp_9s hU t2 v.1 v.2 w.1 w.2]
        simp only [zk_l, zk_r, Option.toList_some, Option.toList_none, List.cons_append, List.nil_append, zrokB, zrokB0, zrokB1, zrokJ0, zrokJ1, and_true, true_and, and_self, if_true, if_false, b2_0, b2_1, b2_not, ite_self]
        rw [sg_126_29, ← bI]
        simp only [zk_l, zk_r, Option.toList_some, Option.toList_none, List.cons_append, List.nil_append, zrokB, zrokB0, zrokB1, zrokJ0, zrokJ1, and_true, true_and, and_self, if_true, if_false, b2_0, b2_1, b2_not, ite_self]
      · rw [sg_284_0]
        simp (disch := first | assumption | omega) only [jI_cl, jm_n, jz_n, i_lit, i_c0, i_c1, Int.toNat_of_nonneg, Int.toNat_natCast, jrow_same, jrow_ne, jrow_jrow, sset_eq, sset_ne]
        rw [sp_216v v.1 (by rw [e5]; exact v.2) (by rw [e5]; exact b10)]
        simp only [zk_l, zk_r, Option.toList_some, Option.toList_none, List.cons_append, List.nil_append, zrokB, zrokB0, zrokB1, zrokJ0, zrokJ1, and_true, true_and, and_self, if_true, if_false, b2_0, b2_1, b2_not, ite_self]
        rw [sg_284_11, if_neg (by decide), sp_216v w.1 (by rw [e5]; exact w.2) (by rw [e5]; exact b10)]
        simp only [zk_l, zk_r, Option.toList_some, Option.toList_none, List.cons_append, List.nil_append, zrokB, zrokB0, zrokB1, zrokJ0, zrokJ1, and_true, true_and, and_self, if_true, if_false, b2_0, b2_1, b2_not, ite_self]
        rw [sg_284_19, if_neg (by decide), sg_284_27]
        refine Eq.trans (sp_178t (W := W) (J := jrow J 353 (sset (J 353) 0 0)) 1) ?_
        simp only [zk_l, zk_r, Option.toList_some, Option.toList_none, List.cons_append, List.nil_append, zrokB, zrokB0, zrokB1, zrokJ0, zrokJ1, and_true, true_and, and_self, if_true, if_false, b2_0, b2_1, b2_not, ite_self]
        rw [sg_284_31, if_pos (by decide), sp_227 v.1 g0 w.1 m0 (by rw [e5]; omega) (by rw [e5]; omega) (by rw [e5]; omega) (by rw [e5]; omega), e5]
        simp only [zk_l, zk_r, Option.toList_some, Option.toList_none, List.cons_append, List.nil_append, zrokB, zrokB0, zrokB1, zrokJ0, zrokJ1, and_true, true_and, and_self, if_true, if_false, b2_0, b2_1, b2_not, ite_self]
        rw [sg_284_40]
        simp only [sg_284_47, sg_284_48, zk_l, zk_r, Option.toList_some, Option.toList_none, List.cons_append, List.nil_append, zrokB, zrokB0, zrokB1, zrokJ0, zrokJ1, and_true, true_and, and_self, if_true, if_false, b2_0, b2_1, b2_not, ite_self, b2_0]
        cases tnt (J 355) a b <;> rfl
    · refine ⟨oE 0, J, 0, jrow J 353 (sset (J 353) 0 1), fun Q => ?_, fun Q => ?_, kp_thr, mt_er 0 0 rfl rfl⟩
      · rw [sg_126_0, sp_162v v.1 (by omega) (by omega)]
        simp only [zk_l, zk_r, Option.toList_some, Option.toList_none, List.cons_append, List.nil_append, zrokB, zrokB0, zrokB1, zrokJ0, zrokJ1, and_true, true_and, and_self, if_true, if_false, b2_0, b2_1, b2_not, ite_self]
        rw [sg_126_5, sp_162n b1q b2q (by rw [hu0]; exact w) (by omega) (by omega)]
        simp only [zk_l, zk_r, Option.toList_some, Option.toList_none, List.cons_append, List.nil_append, zrokB, zrokB0, zrokB1, zrokJ0, zrokJ1, and_true, true_and, and_self, if_true, if_false, b2_0, b2_1, b2_not, ite_self]
      · rw [sg_284_0]
        simp (disch := first | assumption | omega) only [jI_cl, jm_n, jz_n, i_lit, i_c0, i_c1, Int.toNat_of_nonneg, Int.toNat_natCast, jrow_same, jrow_ne, jrow_jrow, sset_eq, sset_ne]
        rw [sp_216v v.1 (by rw [e5]; exact v.2) (by rw [e5]; exact b10)]
        simp only [zk_l, zk_r, Option.toList_some, Option.toList_none, List.cons_append, List.nil_append, zrokB, zrokB0, zrokB1, zrokJ0, zrokJ1, and_true, true_and, and_self, if_true, if_false, b2_0, b2_1, b2_not, ite_self]
        rw [sg_284_11, if_neg (by decide), sp_216n b1q b2q (by rw [e5]; exact w) (by rw [e5]; exact b9) (by rw [e5]; exact b10)]
        simp only [zk_l, zk_r, Option.toList_some, Option.toList_none, List.cons_append, List.nil_append, zrokB, zrokB0, zrokB1, zrokJ0, zrokJ1, and_true, true_and, and_self, if_true, if_false, b2_0, b2_1, b2_not, ite_self]
        rw [sg_284_19, if_pos (by decide), sg_284_26, sg_284_27]
        have h178 := fun Q => sp_178f (W := W) (J := jrow J 353 (sset (J 353) 0 0)) (Q := Q) 1
        simp only [sset_ss, jI_cl, jm_n, jz_n, i_lit, i_c0, i_c1, Int.toNat_of_nonneg, Int.toNat_natCast, jrow_same, jrow_ne, jrow_jrow, sset_eq, sset_ne] at h178
        refine Eq.trans (h178 _) ?_
        simp only [zk_l, zk_r, Option.toList_some, Option.toList_none, List.cons_append, List.nil_append, zrokB, zrokB0, zrokB1, zrokJ0, zrokJ1, and_true, true_and, and_self, if_true, if_false, b2_0, b2_1, b2_not, ite_self]
        rw [sg_284_31, if_neg (by decide), sg_284_47, sg_284_48]
        simp only [zk_l, zk_r, Option.toList_some, Option.toList_none, List.cons_append, List.nil_append, zrokB, zrokB0, zrokB1, zrokJ0, zrokJ1, and_true, true_and, and_self, if_true, if_false, b2_0, b2_1, b2_not, ite_self]
  · refine ⟨oE 0, J, 0, jrow J 353 (sset (J 353) 0 1), fun Q => ?_, fun Q => ?_, kp_thr, mt_er 0 0 rfl rfl⟩
    · rw [sg_126_0, sp_162n a1 a2 (by rw [hu0]; exact v) (by omega) (by omega)]
      simp only [zk_l, zk_r, Option.toList_some, Option.toList_none, List.cons_append, List.nil_append, zrokB, zrokB0, zrokB1, zrokJ0, zrokJ1, and_true, true_and, and_self, if_true, if_false, b2_0, b2_1, b2_not, ite_self]
    · rw [sg_284_0]
      simp (disch := first | assumption | omega) only [jI_cl, jm_n, jz_n, i_lit, i_c0, i_c1, Int.toNat_of_nonneg, Int.toNat_natCast, jrow_same, jrow_ne, jrow_jrow, sset_eq, sset_ne]
      rw [sp_216n a1 a2 (by rw [e5]; exact v) (by rw [e5]; exact b9) (by rw [e5]; exact b10)]
      simp only [zk_l, zk_r, Option.toList_some, Option.toList_none, List.cons_append, List.nil_append, zrokB, zrokB0, zrokB1, zrokJ0, zrokJ1, and_true, true_and, and_self, if_true, if_false, b2_0, b2_1, b2_not, ite_self]
      rw [sg_284_11, if_pos (by decide), sg_284_26, sg_284_27]
      have h178 := fun Q => sp_178f (W := W) (J := jrow J 353 (sset (J 353) 0 0)) (Q := Q) 1
      simp only [sset_ss, jI_cl, jm_n, jz_n, i_lit, i_c0, i_c1, Int.toNat_of_nonneg, Int.toNat_natCast, jrow_same, jrow_ne, jrow_jrow, sset_eq, sset_ne] at h178
      refine Eq.trans (h178 _) ?_
      simp only [zk_l, zk_r, Option.toList_some, Option.toList_none, List.cons_append, List.nil_append, zrokB, zrokB0, zrokB1, zrokJ0, zrokJ1, and_true, true_and, and_self, if_true, if_false, b2_0, b2_1, b2_not, ite_self]
      rw [sg_284_31, if_neg (by decide), sg_284_47, sg_284_48]
      simp only [zk_l, zk_r, Option.toList_some, Option.toList_none, List.cons_append, List.nil_append, zrokB, zrokB0, zrokB1, zrokJ0, zrokJ1, and_true, true_and, and_self, if_true, if_false, b2_0, b2_1, b2_not, ite_self]
end
