/-! ===== shift, advance ===== -/
section
variable {W : zW} {k : Int}
theorem bad_gg (s : Int → Int) (g : Int) : bad s g g = false := by
  unfold bad tnt
  rw [decide_eq_false (show ¬ (g ≠ g) from fun h => h rfl)]
  rfl
theorem sfB_own {s : Int → Int} {c cell p : Int} : sfB s c cell (s (72 + 7 * p)) p = sfB s c cell (s (72 + 7 * p)) (-1) := by
  unfold sfB
  have : ∀ n : Nat, zAllB (fun k => sfAt s c cell (s (72 + 7 * p)) p k) n = zAllB (fun k => sfAt s c cell (s (72 + 7 * p)) (-1) k) n := by
    intro n
    have e : (fun k : Nat => sfAt s c cell (s (72 + 7 * p)) p k) = (fun k : Nat => sfAt s c cell (s (72 + 7 * p)) (-1) k) := by
      funext k
      unfold sfAt
      by_cases h1 : s (400 + 24 * c + (k : Int)) = -1
      · rw [decide_eq_true h1]; simp
      · by_cases h2 : s (400 + 24 * c + (k : Int)) = p
        · rw [h2, bad_gg]; simp
        · rw [decide_eq_false h1, decide_eq_false h2]
    rw [e]
  exact this _
/-- moves: the class -/
theorem sp_169 {Q : zO → zI → Prop} {J : zJ} {s : Int → Int} {D : Int} (h : CX J 49 s D k) {p cell : Int} (p0 : 0 ≤ p) (p1 : p < s 6) (hp : s (72 + 7 * p + 2) = 1) (l0 : 0 ≤ cell) (l1 : cell < nC s (s (72 + 7 * p + 3) / 24)) : wz W 169 0 [.ref 0, .int (jI p), .int (jI (s (72 + 7 * p + 3) / 24)), .int (jI cell), .float 0, .float 0] [] (jm J) Q = Q (oI (if movS s (s (72 + 7 * p + 3) / 24) p cell = -1 then -1 else movS s (s (72 + 7 * p + 3) / 24) p cell - 1)) (jm J) := by
  have h' := h
  obtain ⟨hb, hS, hU, hK, ⟨⟨a1, a2, a3, a4, a5, a6⟩, hT, hV, hP, hW, hL, hQ, hN⟩, hD, hk⟩ := h
  obtain ⟨b1, b2x, b3, b4, b5, b6, b7, b8, b9, b10, b11, b12⟩ := hK.1
  obtain ⟨x0, x1, x2, x3⟩ := st_wh hK hW p0 p1 hp
  obtain ⟨-, -, -, e4, -⟩ := RS_p hS p0 p1
  rw [ce_eq x0] at e4
  generalize hx : s (72 + 7 * p + 3) = x at *
  obtain ⟨en, n1, n2, rr1, rr2, w1, w2, c3⟩ := nC_eq hK (c := x / 24) (by omega) x1
  obtain ⟨hG, hdr⟩ := ru_ch hU hK (c := x / 24) (by omega) x1
  have hcb : zChb (5 + 19 + (x / 24).toNat) := zStp_c zStp_5 (by omega)
  have hmv : wl (nb (gC s (x / 24))) (nC s (x / 24)) (fun j => decide (j = x % 24)) (fun j => frB s (x / 24) j || decide (j = x % 24)) cell = movS s (x / 24) p cell := by
    unfold movS
    rw [hx]
    refine wl_cg (fun j j0 j1 => ⟨?_, ?_⟩) l0 l1
    · try simp only
      rw [decide_eq_decide]
      omega
    · unfold frB opn
      try simp only
      congr 1
      rw [decide_eq_decide]
      constructor
      · intro h
        rw [h, show 400 + 24 * (x / 24) + x % 24 = 400 + x by omega]
        exact x3
      · intro h
        rcases hL (24 * (x / 24) + j) (by omega) (by omega) with h9 | ⟨-, -, h9⟩
        · rw [show 400 + (24 * (x / 24) + j) = 400 + 24 * (x / 24) + j by omega, h] at h9; omega
        · rw [show 400 + (24 * (x / 24) + j) = 400 + 24 * (x / 24) + j by omega, h, hx] at h9; omega
  have hbd : movS s (x / 24) p cell = -1 ∨ (1 ≤ movS s (x / 24) p cell ∧ movS s (x / 24) p cell ≤ 24) := wl_bd cell
  rw [sg_169_0, sp_45 (zStk_r6 zStk_49) p0 (by omega) (by decide), e4]
  simp only [zk_l, zk_r, Option.toList_some, Option.toList_none, List.cons_append, List.nil_append, zrokB, zrokB0, zrokB1, zrokJ0, zrokJ1, and_true, true_and, and_self, if_true, if_false, b2_0, b2_1, b2_not, ite_self]
  rw [sg_169_12, sp_53 zStp_5 (by omega) c3]
  simp only [zk_l, zk_r, Option.toList_some, Option.toList_none, List.cons_append, List.nil_append, zrokB, zrokB0, zrokB1, zrokJ0, zrokJ1, and_true, true_and, and_self, if_true, if_false, b2_0, b2_1, b2_not, ite_self]
  rw [sg_169_23 (hqt0 := hcb), sp_77 h' (by omega) x1]
  simp only [zk_l, zk_r, Option.toList_some, Option.toList_none, List.cons_append, List.nil_append, zrokB, zrokB0, zrokB1, zrokJ0, zrokJ1, and_true, true_and, and_self, if_true, if_false, b2_0, b2_1, b2_not, ite_self]
  have hone : jI 1 <<< (jI (x % 24) &&& 31) = mk (nC s (x / 24)) (fun j => decide (j = x % 24)) := mk_one (by omega) (by omega) x2
  rw [sg_169_34 (hqt0 := hcb), hone, mk_or (by omega), sp_5 hcb hG _ _ l0 l1, hmv]
  simp only [zk_l, zk_r, Option.toList_some, Option.toList_none, List.cons_append, List.nil_append, zrokB, zrokB0, zrokB1, zrokJ0, zrokJ1, and_true, true_and, and_self, if_true, if_false, b2_0, b2_1, b2_not, ite_self]
  rw [sg_169_40]
  by_cases f : movS s (x / 24) p cell = -1
  · rw [if_pos (by rw [f]), if_pos f, sg_169_56]
  · rw [if_neg (by rw [jI_eq (by omega) (by omega) (by omega) (by omega)]; exact f), if_neg f, sg_169_56, jI_sub]
theorem op_shift (hk : k ≤ 30000) {p r l : Int} (p1 : -2147483648 ≤ p) (p2 : p < 2147483648) (r1 : -2147483648 ≤ r) (r2 : r < 2147483648) (l1 : -2147483648 ≤ l) (l2 : l < 2147483648) : Op W k [0, 1, 2] 106 249 [.ref 0, .int (jI p), .int (jI r), .int (jI l), .float 0, .float 0, .float 0] [.ref 353, .int (jI p), .int (jI r), .int (jI l), .float 0, .float 0, .float 0] := by
  intro J g t
  obtain ⟨-, t2, t3, -⟩ := id t
  obtain ⟨a1', a2', a3', a4', a5', a6'⟩ := t3.1
  obtain ⟨b1, b2x, b3, b4, b5, b6, b7, b8, b9, b10, b11, b12⟩ := t2.1
  obtain ⟨-, hS, hU, -⟩ := id g
  obtain ⟨d1, d2, d3, hpl, hq, hc, ho⟩ := id hS
  have hcx := GC_cx g t hk
  by_cases v : 0 ≤ p ∧ p < J 355 6
  · obtain ⟨e1, e2, e3, e4, -⟩ := RS_p hS v.1 v.2
    obtain ⟨q1, q2, q3, q4, q5, q6, -⟩ := t3.2.2.2.1 p v.1 v.2
    have href : ∀ (J2 : zJ), J2 355 = J 355 → ∀ Q : zO → zI → Prop, wz W 249 0 [.ref 353, .int (jI p), .int (jI r), .int (jI l), .float 0, .float 0, .float 0] [] (jm J2) Q = wz W 178 0 [.ref 353, .int (b2 (decide (J 355 (72 + 7 * p + 2) = 1))), .int (jI 3)] [] (jm (jrow J2 353 (sset (J2 353) 0 0))) (zk Q (fun v I1 => wz W 249 38 [.ref 353, .int (jI p), .int (jI r), .int (jI l), .float 0, .float 0, .float 0] (v.toList ++ []) I1 Q)) := by
      intro J2 e55 Q
      have e9 : ∀ f, jrow J2 353 f 355 = J 355 := fun f => e355.trans e55
      rw [sg_249_0]
      simp (disch := first | assumption | omega) only [jI_cl, jm_n, jz_n, i_lit, i_c0, i_c1, Int.toNat_of_nonneg, Int.toNat_natCast, jrow_same, jrow_ne, jrow_jrow, sset_eq, sset_ne]
      rw [sp_217v v.1 (by rw [e9]; exact v.2) (by rw [e9]; exact a4')]
      simp only [zk_l, zk_r, Option.toList_some, Option.toList_none, List.cons_append, List.nil_append, zrokB, zrokB0, zrokB1, zrokJ0, zrokJ1, and_true, true_and, and_self, if_true, if_false, b2_0, b2_1, b2_not, ite_self]
      rw [sg_249_11, sp_178t]
      simp only [zk_l, zk_r, Option.toList_some, Option.toList_none, List.cons_append, List.nil_append, zrokB, zrokB0, zrokB1, zrokJ0, zrokJ1, and_true, true_and, and_self, if_true, if_false, b2_0, b2_1, b2_not, ite_self]
      rw [sg_249_15, if_pos (by decide), sp_221 (by omega) v.1 (by omega), e9]
      simp only [zk_l, zk_r, Option.toList_some, Option.toList_none, List.cons_append, List.nil_append, zrokB, zrokB0, zrokB1, zrokJ0, zrokJ1, and_true, true_and, and_self, if_true, if_false, b2_0, b2_1, b2_not, ite_self]
      rw [sg_249_25]
      by_cases c : J 355 (72 + 7 * p + 2) = 1
      · rw [if_pos (by rw [c]), sg_249_34, decide_eq_true c]; rfl
      · rw [if_neg (by rw [jI_eq (by omega) (by omega) (by omega) (by omega)]; exact c), sg_249_34, decide_eq_false c]; rfl
    have hclass : ∀ Q : zO → zI → Prop, wz W 106 0 [.ref 0, .int (jI p), .int (jI r), .int (jI l), .float 0, .float 0, .float 0] [] (jm J) Q = wz W 106 16 [.ref 0, .int (jI p), .int (jI r), .int (jI l), .float 0, .float 0, .float 0] [.int (jI (J 355 (72 + 7 * p + 2)))] (jm J) Q := by
      intro Q
      rw [sg_106_0, sp_163v v.1 (by omega) (by omega)]
      simp only [zk_l, zk_r, Option.toList_some, Option.toList_none, List.cons_append, List.nil_append, zrokB, zrokB0, zrokB1, zrokJ0, zrokJ1, and_true, true_and, and_self, if_true, if_false, b2_0, b2_1, b2_not, ite_self]
      rw [sg_106_5, sp_45 (zStk_r4 zStk_49) v.1 (by omega) (by decide), e2]
      simp only [zk_l, zk_r, Option.toList_some, Option.toList_none, List.cons_append, List.nil_append, zrokB, zrokB0, zrokB1, zrokJ0, zrokJ1, and_true, true_and, and_self, if_true, if_false, b2_0, b2_1, b2_not, ite_self]
    by_cases w : J 355 (72 + 7 * p + 2) = 1
    · obtain ⟨x0, x1, x2, x3⟩ := st_wh t2 t3.2.2.2.2.1 v.1 v.2 w
      have ec : chOf (J 355 (72 + 7 * p + 3)) = J 355 (72 + 7 * p + 3) / 24 := (ch_eq (by omega) (by omega)).mpr rfl
      rw [ec] at e3
      have hc0 : 0 ≤ J 355 (72 + 7 * p + 3) / 24 := by omega
      have hc3 : J 355 (72 + 7 * p + 3) / 24 < 3 := by omega
      obtain ⟨en, n1, n2, rr1, rr2, w1, w2, -⟩ := nC_eq t2 hc0 x1
      have href2 : ∀ (J2 : zJ), J2 355 = J 355 → ∀ Q : zO → zI → Prop, wz W 249 0 [.ref 353, .int (jI p), .int (jI r), .int (jI l), .float 0, .float 0, .float 0] [] (jm J2) Q = wz W 223 0 [.ref 353, .int (jI (J 355 (72 + 7 * p + 3) / 24)), .int (jI r), .int (jI l)] [] (jm (jrow J2 353 (sset (J2 353) 0 0))) (zk Q (fun v I1 => wz W 249 63 [.ref 353, .int (jI p), .int (jI r), .int (jI l), .int (jI (J 355 (72 + 7 * p + 3) / 24)), .float 0, .float 0] (v.toList ++ [.ref 353]) I1 Q)) := by
        intro J2 e55 Q
        have e9 : ∀ f, jrow J2 353 f 355 = J 355 := fun f => e355.trans e55
        rw [href J2 e55, decide_eq_true w]
        refine Eq.trans (sp_178t (W := W) 3) ?_
        simp only [zk_l, zk_r, Option.toList_some, Option.toList_none, List.cons_append, List.nil_append, zrokB, zrokB0, zrokB1, zrokJ0, zrokJ1, and_true, true_and, and_self, if_true, if_false, b2_0, b2_1, b2_not, ite_self]
        rw [sg_249_38, if_pos (by decide), sp_221 (by omega) v.1 (by omega), e9]
        simp only [zk_l, zk_r, Option.toList_some, Option.toList_none, List.cons_append, List.nil_append, zrokB, zrokB0, zrokB1, zrokJ0, zrokJ1, and_true, true_and, and_self, if_true, if_false, b2_0, b2_1, b2_not, ite_self]
        rw [sg_249_49]
        simp (disch := first | assumption | omega) only [Int.add_zero, jI_nat, jI_add, jI_sub, jI_mul, jI_neg, jI_lt, jI_le, jI_eq, jI_lt0, jI_0lt, jI_le0, jI_0le, jI_eq0, jI_in, jI_dv, i_mod]
      by_cases y : 0 ≤ r ∧ r < gR (J 355) (J 355 (72 + 7 * p + 3) / 24) ∧ 0 ≤ l ∧ l < gC (J 355) (J 355 (72 + 7 * p + 3) / 24)
      · have hcb := cell_bd y.1 y.2.1 y.2.2.1 y.2.2.2 w1 w2
        rw [Int.mul_comm r] at hcb
        have hsmC := ok_smC t3.2.2.2.2.2.1 t3.2.2.2.1 a4' (c := J 355 (72 + 7 * p + 3) / 24) (by omega) hc3
        have hcell := ok_cell t3.2.2.2.2.2.1 t3.2.2.2.1 hc0 hc3 hcb.1 (show gC (J 355) (J 355 (72 + 7 * p + 3) / 24) * r + l < 24 by omega)
        have hmov := fun (J2 : zJ) (e55 : J2 355 = J 355) => sp_248 (W := W) (J := J2) (p := p) (c := J 355 (72 + 7 * p + 3) / 24) (cell := gC (J 355) (J 355 (72 + 7 * p + 3) / 24) * r + l) (by rw [e55]; exact t2) v.1 (by omega) hc0 (by rw [e55]; exact x1) (by rw [e55]; exact hsmC) (by rw [e55]; omega) (by rw [e55]; omega) (by
          rw [e55]
          intro j j0 j1 hj
          unfold opn
          rw [show 400 + 24 * (J 355 (72 + 7 * p + 3) / 24) + j = 400 + J 355 (72 + 7 * p + 3) by omega, x3, decide_eq_true (show p = p from rfl), Bool.or_true]) hcb.1 (by rw [e55]; omega)
        have hclass2 : ∀ Q : zO → zI → Prop, wz W 106 0 [.ref 0, .int (jI p), .int (jI r), .int (jI l), .float 0, .float 0, .float 0] [] (jm J) Q = if saB (J 355) (J 355 (72 + 7 * p + 3) / 24) (J 355 (72 + 7 * p)) (gC (J 355) (J 355 (72 + 7 * p + 3) / 24) * r + l) = false then Q (oE 2) (jm J) else wz W 106 100 [.ref 0, .int (jI p), .int (jI r), .int (jI l), .int (jI (J 355 (72 + 7 * p + 3) / 24)), .int (jI (gC (J 355) (J 355 (72 + 7 * p + 3) / 24) * r + l)), .float 0] [.int (jI (if movS (J 355) (J 355 (72 + 7 * p + 3) / 24) p (gC (J 355) (J 355 (72 + 7 * p + 3) / 24) * r + l) = -1 then -1 else movS (J 355) (J 355 (72 + 7 * p + 3) / 24) p (gC (J 355) (J 355 (72 + 7 * p + 3) / 24) * r + l) - 1))] (jm J) Q := by
          intro Q
          rw [hclass, sg_106_16, if_pos (by rw [w]), sp_45 (zStk_r5 zStk_49) v.1 (by omega) (by decide), e3]
          simp only [zk_l, zk_r, Option.toList_some, Option.toList_none, List.cons_append, List.nil_append, zrokB, zrokB0, zrokB1, zrokJ0, zrokJ1, and_true, true_and, and_self, if_true, if_false, b2_0, b2_1, b2_not, ite_self]
          rw [sg_106_41, sp_166v hU t2 hc0 x1 y.1 y.2.1 y.2.2.1 y.2.2.2]
          simp only [zk_l, zk_r, Option.toList_some, Option.toList_none, List.cons_append, List.nil_append, zrokB, zrokB0, zrokB1, zrokJ0, zrokJ1, and_true, true_and, and_self, if_true, if_false, b2_0, b2_1, b2_not, ite_self]
          rw [sg_106_51, sp_45 (zStk_r3 zStk_49) v.1 (by omega) (by decide), e1]
          simp only [zk_l, zk_r, Option.toList_some, Option.toList_none, List.cons_append, List.nil_append, zrokB, zrokB0, zrokB1, zrokJ0, zrokJ1, and_true, true_and, and_self, if_true, if_false, b2_0, b2_1, b2_not, ite_self]
          rw [sg_106_70 (hqt0 := zStk_49), sp_78 hcx hc0 x1 q1 q2]
          simp only [zk_l, zk_r, Option.toList_some, Option.toList_none, List.cons_append, List.nil_append, zrokB, zrokB0, zrokB1, zrokJ0, zrokJ1, and_true, true_and, and_self, if_true, if_false, b2_0, b2_1, b2_not, ite_self]
          rw [sg_106_73, sp_167 hcb.1 (by omega), mk_bt (by omega) _ hcb.1 (by omega)]
          simp only [zk_l, zk_r, Option.toList_some, Option.toList_none, List.cons_append, List.nil_append, zrokB, zrokB0, zrokB1, zrokJ0, zrokJ1, and_true, true_and, and_self, if_true, if_false, b2_0, b2_1, b2_not, ite_self]
          rw [sg_106_78]
          cases saB (J 355) (J 355 (72 + 7 * p + 3) / 24) (J 355 (72 + 7 * p)) (gC (J 355) (J 355 (72 + 7 * p + 3) / 24) * r + l)
          · rw [if_pos (by decide), if_pos rfl]
          · rw [if_neg (by decide), if_neg (by decide), sp_169 hcx v.1 v.2 w hcb.1 (by omega)]
            simp only [zk_l, zk_r, Option.toList_some, Option.toList_none, List.cons_append, List.nil_append, zrokB, zrokB0, zrokB1, zrokJ0, zrokJ1, and_true, true_and, and_self, if_true, if_false, b2_0, b2_1, b2_not, ite_self]
        have hsa : ∀ cell, saB (J 355) (J 355 (72 + 7 * p + 3) / 24) (J 355 (72 + 7 * p)) cell = (decide (J 355 (400 + 24 * (J 355 (72 + 7 * p + 3) / 24) + cell) = -1) && sfB (J 355) (J 355 (72 + 7 * p + 3) / 24) cell (J 355 (72 + 7 * p)) p) := by
          intro cell
          rw [sfB_own]
          rfl
        have hmb : movS (J 355) (J 355 (72 + 7 * p + 3) / 24) p (gC (J 355) (J 355 (72 + 7 * p + 3) / 24) * r + l) = -1 ∨ (1 ≤ movS (J 355) (J 355 (72 + 7 * p + 3) / 24) p (gC (J 355) (J 355 (72 + 7 * p + 3) / 24) * r + l) ∧ movS (J 355) (J 355 (72 + 7 * p + 3) / 24) p (gC (J 355) (J 355 (72 + 7 * p + 3) / 24) * r + l) ≤ 24) := wl_bd _
        have hc223 := fun (J2 : zJ) (e55 : J2 355 = J 355) (Q : zO → zI → Prop) => sp_223v (W := W) (J := J2) (Q := Q) (c := J 355 (72 + 7 * p + 3) / 24) (r := r) (l := l) (by rw [e55]; exact t2) hc0 (by rw [e55]; exact x1) y.1 (by rw [e55]; exact y.2.1) y.2.2.1 (by rw [e55]; exact y.2.2.2)
        have h230 := fun (J2 : zJ) (e55 : J2 355 = J 355) (Q : zO → zI → Prop) => sp_230 (W := W) (J := J2) (Q := Q) (c := J 355 (72 + 7 * p + 3) / 24) (cell := gC (J 355) (J 355 (72 + 7 * p + 3) / 24) * r + l) (g := J 355 (72 + 7 * p)) (wo := p) (by rw [e55]; exact t2) (by rw [e55]; exact t3.2.2.2.2.2.1) (by rw [e55]; exact t3.2.2.2.1) (by rw [e55]; exact a4') hc0 (by rw [e55]; exact x1) hcb.1 (by omega) q1 (by rw [e55]; exact q2) (by omega) (by omega)
        generalize hcc : J 355 (72 + 7 * p + 3) / 24 = c at *
        generalize hce : gC (J 355) c * r + l = ce at *
        generalize hmm : (if movS (J 355) c p ce = -1 then -1 else movS (J 355) c p ce - 1) = mm at *
        have hmm2 : -1 ≤ mm ∧ mm ≤ 24 := by
          rw [← hmm]
          split <;> omega
        have href3 : ∀ (J2 : zJ), J2 355 = J 355 → ∃ x', ∀ Q : zO → zI → Prop, wz W 249 0 [.ref 353, .int (jI p), .int (jI r), .int (jI l), .float 0, .float 0, .float 0] [] (jm J2) Q = wz W 178 0 [.ref 353, .int (b2 (saB (J 355) c (J 355 (72 + 7 * p)) ce && decide (mm ≠ -1))), .int (jI 3)] [] (jm (jrow (jrow J2 353 (sset (J2 353) 0 0)) 358 x')) (zk Q (fun v I1 => wz W 249 139 [.ref 353, .int (jI p), .int (jI r), .int (jI l), .int (jI c), .int (jI ce), .int (jI mm)] (v.toList ++ []) I1 Q)) := by
          intro J2 e55
          have e9 : ∀ f, jrow J2 353 f 355 = J 355 := fun f => e355.trans e55
          obtain ⟨x', hx'⟩ := hmov (jrow J2 353 (sset (J2 353) 0 0)) (e9 _)
          rw [e9] at hx'
          rw [hmm] at hx'
          have e8 : jrow (jrow J2 353 (sset (J2 353) 0 0)) 358 x' 355 = J 355 := by rw [jrow_ne (by decide)]; exact e9 _
          refine ⟨x', fun Q => ?_⟩
          rw [href2 J2 e55, hc223 _ (e9 _)]
          simp only [zk_l, zk_r, Option.toList_some, Option.toList_none, List.cons_append, List.nil_append, zrokB, zrokB0, zrokB1, zrokJ0, zrokJ1, and_true, true_and, and_self, if_true, if_false, b2_0, b2_1, b2_not, ite_self]
          rw [sg_249_63]
          refine Eq.trans (sp_178t (W := W) 2) ?_
          simp only [zk_l, zk_r, Option.toList_some, Option.toList_none, List.cons_append, List.nil_append, zrokB, zrokB0, zrokB1, zrokJ0, zrokJ1, and_true, true_and, and_self, if_true, if_false, b2_0, b2_1, b2_not, ite_self]
          rw [sg_249_67, if_pos (by decide), sp_224 hc0 hc3, e9, hce]
          simp only [zk_l, zk_r, Option.toList_some, Option.toList_none, List.cons_append, List.nil_append, zrokB, zrokB0, zrokB1, zrokJ0, zrokJ1, and_true, true_and, and_self, if_true, if_false, b2_0, b2_1, b2_not, ite_self]
          rw [sg_249_80]
          refine (hx' _).trans ?_
          simp only [zk_l, zk_r, Option.toList_some, Option.toList_none, List.cons_append, List.nil_append, zrokB, zrokB0, zrokB1, zrokJ0, zrokJ1, and_true, true_and, and_self, if_true, if_false, b2_0, b2_1, b2_not, ite_self]
          rw [sg_249_91, sp_226 (by omega) hc0 hcb.1, e8]
          simp only [zk_l, zk_r, Option.toList_some, Option.toList_none, List.cons_append, List.nil_append, zrokB, zrokB0, zrokB1, zrokJ0, zrokJ1, and_true, true_and, and_self, if_true, if_false, b2_0, b2_1, b2_not, ite_self]
          rw [sg_249_102, hsa]
          by_cases f : J 355 (400 + 24 * c + ce) = -1
          · rw [if_pos (by rw [f]), sp_221 (by omega) v.1 (by omega), e8, decide_eq_true f, Bool.true_and]
            simp only [Int.add_zero, zk_l, zk_r, Option.toList_some, Option.toList_none, List.cons_append, List.nil_append, zrokB, zrokB0, zrokB1, zrokJ0, zrokJ1, and_true, true_and, and_self, if_true, if_false, b2_0, b2_1, b2_not, ite_self]
            rw [sg_249_117, h230 _ e8, e8]
            simp only [zk_l, zk_r, Option.toList_some, Option.toList_none, List.cons_append, List.nil_append, zrokB, zrokB0, zrokB1, zrokJ0, zrokJ1, and_true, true_and, and_self, if_true, if_false, b2_0, b2_1, b2_not, ite_self]
            rw [sg_249_121]
            cases sfB (J 355) c ce (J 355 (72 + 7 * p)) p
            · rw [if_pos (by decide), sg_249_134, sg_249_135, Bool.false_and]; rfl
            · rw [if_neg (by decide), Bool.true_and]
              by_cases f2 : mm = -1
              · rw [if_pos (by rw [f2]), sg_249_134, sg_249_135, decide_eq_false (by omega)]; rfl
              · rw [if_neg (by rw [jI_eq (by omega) (by omega) (by omega) (by omega)]; exact f2), sg_249_135, decide_eq_true f2]; rfl
          · rw [if_neg (by rw [jI_eq (by omega) (by omega) (by omega) (by omega)]; exact f), sg_249_134, sg_249_135, decide_eq_false f, Bool.false_and, Bool.false_and]; rfl
        by_cases z : saB (J 355) c (J 355 (72 + 7 * p)) ce = true ∧ mm ≠ -1
        · have hfr : J 355 (400 + 24 * c + ce) = -1 := by
            have := z.1
            rw [hsa, Bool.and_eq_true] at this
            exact of_decide_eq_true this.1
          obtain ⟨ok1, ok2⟩ := shift_ok t2 t3 v.1 v.2 w hcc hcb.1 (by omega) hfr
          refine opc g t hk (t' := fShift (J 355) p c ce) (v := mm) ok1 (okD_mono ok2 (Int.le_refl _) (by omega)) (fun J1 k1 hx1 h348 => ?_) (fun J2 h348 => ?_)
          · refine ⟨jrow J1 (49 + 7 + 1) (sset (J1 (49 + 7 + 1)) p ce), fun Q => ?_, shift_RS hx1 v.1 v.2 w hcc hcb.1 (by omega), fun r hr => jrow_ne (by omega)⟩
            rw [hclass2, if_neg (by rw [z.1]; decide), sg_106_100, if_neg (by rw [jI_eq (by omega) (by omega) (by omega) (by omega)]; exact z.2), k1]
            simp only [zk_l, zk_r, Option.toList_some, Option.toList_none, List.cons_append, List.nil_append, zrokB, zrokB0, zrokB1, zrokJ0, zrokJ1, and_true, true_and, and_self, if_true, if_false, b2_0, b2_1, b2_not, ite_self]
            rw [sg_106_129, sp_68 zStk_49 v.1 (by omega)]
            simp only [zk_l, zk_r, Option.toList_some, Option.toList_none, List.cons_append, List.nil_append, zrokB, zrokB0, zrokB1, zrokJ0, zrokJ1, and_true, true_and, and_self, if_true, if_false, b2_0, b2_1, b2_not, ite_self]
            rw [sg_106_139]
          · have e55 := h348 355 (by decide)
            have e53 := h348 353 (by decide)
            obtain ⟨x', hx'⟩ := href3 J2 e55
            obtain ⟨J', s1, s2, s3, s4, s5, -⟩ := rec55 (W := W) (th0_2 (th0_1 J2) x' (q := 358) (by decide)) (by rw [e53]; exact t.2.2.2.1.1) (by rw [e53]; exact t.2.2.2.1.2.1)
            rw [e55] at s2
            refine ⟨jrow J' 355 (fShift (J 355) p c ce), fun Q => ?_, s5 _⟩
            rw [hx', z.1, decide_eq_true z.2]
            refine Eq.trans (sp_178t (W := W) 3) ?_
            simp only [zk_l, zk_r, Option.toList_some, Option.toList_none, List.cons_append, List.nil_append, zrokB, zrokB0, zrokB1, zrokJ0, zrokJ1, and_true, true_and, and_self, if_true, if_false, b2_0, b2_1, b2_not, ite_self]
            rw [sg_249_139, if_pos (by decide), s1]
            simp only [zk_l, zk_r, Option.toList_some, Option.toList_none, List.cons_append, List.nil_append, zrokB, zrokB0, zrokB1, zrokJ0, zrokJ1, and_true, true_and, and_self, if_true, if_false, b2_0, b2_1, b2_not, ite_self]
            rw [sg_249_152, sp_242 v.1 (by omega) (by rw [s2]; omega) (by rw [s2]; omega), s2]
            simp only [zk_l, zk_r, Option.toList_some, Option.toList_none, List.cons_append, List.nil_append, zrokB, zrokB0, zrokB1, zrokJ0, zrokJ1, and_true, true_and, and_self, if_true, if_false, b2_0, b2_1, b2_not, ite_self]
            rw [sg_249_157, sp_241 v.1 (by omega) hc0 hc3 hcb.1 (by omega), jrow_same, jrow_jrow]
            simp only [zk_l, zk_r, Option.toList_some, Option.toList_none, List.cons_append, List.nil_append, zrokB, zrokB0, zrokB1, zrokJ0, zrokJ1, and_true, true_and, and_self, if_true, if_false, b2_0, b2_1, b2_not, ite_self]
            rw [sg_249_166]
            rfl
        · have ef : (saB (J 355) c (J 355 (72 + 7 * p)) ce && decide (mm ≠ -1)) = false := by
            rw [← Bool.not_eq_true, Bool.and_eq_true, decide_eq_true_eq]
            exact z
          obtain ⟨x', hx'⟩ := href3 J rfl
          refine opq g t ⟨oE 2, J, 0, jrow (jrow (jrow J 353 (sset (J 353) 0 0)) 358 x') 353 (sset (jrow (jrow J 353 (sset (J 353) 0 0)) 358 x' 353) 0 3), fun Q => ?_, fun Q => ?_, kp_trans kp_thr2 kp_thr, mt_er 2 2 rfl rfl⟩
          · rw [hclass2]
            cases hz : saB (J 355) c (J 355 (72 + 7 * p)) ce
            · rw [if_pos rfl]
            · have hm9 : mm = -1 := by
                apply Classical.byContradiction
                intro h
                exact z ⟨hz, h⟩
              rw [if_neg (by decide), sg_106_100, if_pos (by rw [hm9])]
          · rw [hx', ef]
            refine Eq.trans (sp_178f (W := W) 3) ?_
            simp only [zk_l, zk_r, Option.toList_some, Option.toList_none, List.cons_append, List.nil_append, zrokB, zrokB0, zrokB1, zrokJ0, zrokJ1, and_true, true_and, and_self, if_true, if_false, b2_0, b2_1, b2_not, ite_self]
            rw [sg_249_139, if_neg (by decide)]
      · refine opq g t ⟨oE 1, J, 0, jrow J 353 (sset (J 353) 0 2), fun Q => ?_, fun Q => ?_, kp_thr, mt_er 1 1 rfl rfl⟩
        · rw [hclass, sg_106_16, if_pos (by rw [w]), sp_45 (zStk_r5 zStk_49) v.1 (by omega) (by decide), e3]
          simp only [zk_l, zk_r, Option.toList_some, Option.toList_none, List.cons_append, List.nil_append, zrokB, zrokB0, zrokB1, zrokJ0, zrokJ1, and_true, true_and, and_self, if_true, if_false, b2_0, b2_1, b2_not, ite_self]
          rw [sg_106_41, sp_166n hU t2 hc0 x1 r1 r2 l1 l2 y]
          simp only [zk_l, zk_r, Option.toList_some, Option.toList_none, List.cons_append, List.nil_append, zrokB, zrokB0, zrokB1, zrokJ0, zrokJ1, and_true, true_and, and_self, if_true, if_false, b2_0, b2_1, b2_not, ite_self]
        · rw [href2 J rfl, sp_223n (by rw [e355]; exact t2) hc0 (by rw [e355]; exact x1) r1 r2 l1 l2 (by rw [e355]; exact y)]
          simp only [zk_l, zk_r, Option.toList_some, Option.toList_none, List.cons_append, List.nil_append, zrokB, zrokB0, zrokB1, zrokJ0, zrokJ1, and_true, true_and, and_self, if_true, if_false, b2_0, b2_1, b2_not, ite_self]
          rw [sg_249_63]
          refine Eq.trans (sp_178f (W := W) 2) ?_
          simp only [sset_ss, zk_l, zk_r, Option.toList_some, Option.toList_none, List.cons_append, List.nil_append, zrokB, zrokB0, zrokB1, zrokJ0, zrokJ1, and_true, true_and, and_self, if_true, if_false, b2_0, b2_1, b2_not, ite_self, jI_cl, jm_n, jz_n, i_lit, i_c0, i_c1, Int.toNat_of_nonneg, Int.toNat_natCast, jrow_same, jrow_ne, jrow_jrow, sset_eq, sset_ne]
          rw [sg_249_67, if_neg (by decide)]
    · refine opq g t ⟨oE 2, J, 0, jrow J 353 (sset (J 353) 0 3), fun Q => ?_, fun Q => ?_, kp_thr, mt_er 2 2 rfl rfl⟩
      · rw [hclass, sg_106_16, if_neg (by rw [jI_eq (by omega) (by omega) (by omega) (by omega)]; exact w)]
      · rw [href J rfl, decide_eq_false w]
        refine Eq.trans (sp_178f (W := W) 3) ?_
        simp only [sset_ss, zk_l, zk_r, Option.toList_some, Option.toList_none, List.cons_append, List.nil_append, zrokB, zrokB0, zrokB1, zrokJ0, zrokJ1, and_true, true_and, and_self, if_true, if_false, b2_0, b2_1, b2_not, ite_self, jI_cl, jm_n, jz_n, i_lit, i_c0, i_c1, Int.toNat_of_nonneg, Int.toNat_natCast, jrow_same, jrow_ne, jrow_jrow, sset_eq, sset_ne]
        rw [sg_249_38, if_neg (by decide), sg_249_41]
  · refine opq g t ⟨oE 0, J, 0, jrow J 353 (sset (J 353) 0 1), fun Q => ?_, fun Q => ?_, kp_thr, mt_er 0 0 rfl rfl⟩
    · rw [sg_106_0, sp_163n p1 p2 (by rw [d2]; exact v) (by omega) (by omega)]
      simp only [zk_l, zk_r, Option.toList_some, Option.toList_none, List.cons_append, List.nil_append, zrokB, zrokB0, zrokB1, zrokJ0, zrokJ1, and_true, true_and, and_self, if_true, if_false, b2_0, b2_1, b2_not, ite_self]
    · rw [sg_249_0]
      simp (disch := first | assumption | omega) only [jI_cl, jm_n, jz_n, i_lit, i_c0, i_c1, Int.toNat_of_nonneg, Int.toNat_natCast, jrow_same, jrow_ne, jrow_jrow, sset_eq, sset_ne]
      rw [sp_217n p1 p2 (by rw [e355]; exact v) (by rw [e355]; exact a3') (by rw [e355]; exact a4')]
      simp only [zk_l, zk_r, Option.toList_some, Option.toList_none, List.cons_append, List.nil_append, zrokB, zrokB0, zrokB1, zrokJ0, zrokJ1, and_true, true_and, and_self, if_true, if_false, b2_0, b2_1, b2_not, ite_self]
      rw [sg_249_11, sp_178f]
      simp only [sset_ss, zk_l, zk_r, Option.toList_some, Option.toList_none, List.cons_append, List.nil_append, zrokB, zrokB0, zrokB1, zrokJ0, zrokJ1, and_true, true_and, and_self, if_true, if_false, b2_0, b2_1, b2_not, ite_self, jI_cl, jm_n, jz_n, i_lit, i_c0, i_c1, Int.toNat_of_nonneg, Int.toNat_natCast, jrow_same, jrow_ne, jrow_jrow, sset_eq, sset_ne]
      rw [sg_249_15, if_neg (by decide), sg_249_41]
theorem nights_0 (s : Int → Int) : ∀ n : Nat, nights s n 0 = s 0 + n ∧ nights s n 6 = s 6 := by
  intro n
  induction n with
  | zero => exact ⟨by show s 0 = s 0 + (0 : Nat); omega, rfl⟩
  | succ n ih =>
    constructor
    · show fNight (nights s n) 0 = _
      unfold fNight
      rw [sset_eq rfl, ih.1]
      omega
    · show fNight (nights s n) 6 = s 6
      rw [← ih.2]
      unfold fNight
      rw [sset_ne (by decide), niP_ne (by omega), niC_ne (by omega)]
theorem okD_day {s : Int → Int} {D D' : Int} (h : okD D k s) (hd : s 0 ≤ D') : okD D' k s := by
  obtain ⟨⟨a1, a2, a3⟩, h9⟩ := h
  exact ⟨⟨a1, hd, a3⟩, h9⟩
theorem op_advance (hk0 : 0 ≤ k) (hk1 : k ≤ 21500) {n : Int} (p1 : -2147483648 ≤ n) (p2 : n < 2147483648) : Op W k [1] 112 266 [.ref 0, .int (jI n), .float 0] [.ref 353, .int (jI n), .float 0] := by
  have hk : k ≤ 30000 := by omega
  intro J g t
  obtain ⟨-, t2, t3, -⟩ := id t
  obtain ⟨a1', a2', a3', a4', a5', a6'⟩ := t3.1
  obtain ⟨b1, b2x, b3, b4, b5, b6, b7, b8, b9, b10, b11, b12⟩ := t2.1
  obtain ⟨-, hS, hU, -⟩ := id g
  obtain ⟨d1, d2, d3, hpl, hq, hc, ho⟩ := id hS
  have hcx := GC_cx g t hk
  have href : ∀ (J2 : zJ), J2 355 = J 355 → ∀ Q : zO → zI → Prop, wz W 266 0 [.ref 353, .int (jI n), .float 0] [] (jm J2) Q = wz W 178 0 [.ref 353, .int (b2 (decide (1 ≤ n ∧ n ≤ 60 ∧ J 355 0 + n ≤ 365))), .int (jI 1)] [] (jm (jrow J2 353 (sset (J2 353) 0 0))) (zk Q (fun v I1 => wz W 266 39 [.ref 353, .int (jI n), .float 0] (v.toList ++ []) I1 Q)) := by
    intro J2 e55 Q
    have e9 : ∀ f, jrow J2 353 f 355 = J 355 := fun f => e355.trans e55
    rw [sg_266_0]
    simp (disch := first | assumption | omega) only [jI_cl, jm_n, jz_n, i_lit, i_c0, i_c1, Int.toNat_of_nonneg, Int.toNat_natCast, jrow_same, jrow_ne, jrow_jrow, sset_eq, sset_ne]
    rw [sp_176j p1 p2 (by omega) (by omega) (by omega) (by omega)]
    simp only [zk_l, zk_r, Option.toList_some, Option.toList_none, List.cons_append, List.nil_append, zrokB, zrokB0, zrokB1, zrokJ0, zrokJ1, and_true, true_and, and_self, if_true, if_false, b2_0, b2_1, b2_not, ite_self]
    rw [sg_266_13]
    by_cases c : 1 ≤ n ∧ n ≤ 60
    · rw [decide_eq_true c.1, decide_eq_true c.2, Bool.and_self, if_neg (by decide)]
      simp (disch := first | assumption | omega) only [e9, zk_l, zk_r, Option.toList_some, Option.toList_none, List.cons_append, List.nil_append, zrokB, zrokB0, zrokB1, zrokJ0, zrokJ1, and_true, true_and, and_self, if_true, if_false, b2_0, b2_1, b2_not, ite_self, Int.add_zero, jI_nat, jI_add, jI_sub, jI_mul, jI_neg, jI_lt, jI_le, jI_eq, jI_lt0, jI_0lt, jI_le0, jI_0le, jI_eq0, jI_in, jI_dv, i_mod, jI_cl, jm_n, jz_n, i_lit, i_c0, i_c1, Int.toNat_of_nonneg, Int.toNat_natCast, jrow_same, jrow_ne, jrow_jrow, sset_eq, sset_ne]
      by_cases c2 : J 355 0 + n ≤ 365
      · rw [if_neg (by omega), sg_266_35, decide_eq_true ⟨c.1, c.2, c2⟩]; rfl
      · rw [if_pos (by omega), sg_266_34, sg_266_35, decide_eq_false (by omega)]; rfl
    · have ef : (decide (1 ≤ n) && decide (n ≤ 60)) = false := by
        rw [← Bool.not_eq_true, Bool.and_eq_true, decide_eq_true_eq, decide_eq_true_eq]
        exact c
      rw [ef, if_pos (by decide), sg_266_34, sg_266_35, decide_eq_false (by omega)]; rfl
  by_cases v : 1 ≤ n ∧ n ≤ 60 ∧ J 355 0 + n ≤ 365
  · obtain ⟨m, rfl⟩ : ∃ m : Nat, n = m := ⟨n.toNat, by omega⟩
    obtain ⟨ok1, ok2⟩ := nights_ok t2 t3 hk0 hk1 m
    obtain ⟨n0, n6⟩ := nights_0 (J 355) m
    have ok3 := okK_same t2 ok1
    have hcnt := cntW_eq t2 t3 hk0 hk1 m
    have hz1' : cntZ (nights (J 355) m) (J 355 6).toNat ≤ (J 355 6).toNat := cntB_le _ _
    have hz2' : cntZ (J 355) (J 355 6).toNat ≤ (J 355 6).toNat := cntB_le _ _
    have hval : (cntZ (nights (J 355) m) (nights (J 355) m 6).toNat : Int) - cntZ (J 355) (J 355 6).toNat = cntW (J 355) (nights (J 355) m) (J 355 6).toNat := by
      rw [n6]
      omega
    refine opc g t hk (t' := nights (J 355) m) (v := cntW (J 355) (nights (J 355) m) (J 355 6).toNat) ok1 (okD_mono (okD_day ok2 (by omega)) (Int.le_refl _) (by omega)) (fun J1 k1 hx1 h348 => ?_) (fun J2 h348 => ?_)
    · obtain ⟨J2, r1, r2, r3⟩ := sp_83n (W := W) hx1 hk0 hk1 (n := m) (by omega) (by omega)
      have hx2 : CX J2 49 (nights (J 355) m) (365 + m) k := ⟨zStk_49, r2, RU_same (RU_fr hx1.2.2.1 t2 (fun r a b => r3 r (by omega))) t2 ok1, ok3, ok2, by omega, hk⟩
      refine ⟨J2, fun Q => ?_, r2, fun r hr => r3 r (by omega)⟩
      rw [sg_112_0]
      simp (disch := first | assumption | omega) only [d1, zk_l, zk_r, Option.toList_some, Option.toList_none, List.cons_append, List.nil_append, zrokB, zrokB0, zrokB1, zrokJ0, zrokJ1, and_true, true_and, and_self, if_true, if_false, b2_0, b2_1, b2_not, ite_self, Int.add_zero, jI_nat, jI_add, jI_sub, jI_mul, jI_neg, jI_lt, jI_le, jI_eq, jI_lt0, jI_0lt, jI_le0, jI_0le, jI_eq0, jI_in, jI_dv, i_mod, jI_cl, jm_n, jz_n, i_lit, i_c0, i_c1, Int.toNat_of_nonneg, Int.toNat_natCast, jrow_same, jrow_ne, jrow_jrow, sset_eq, sset_ne]
      rw [if_neg (by omega), if_neg (by omega), if_pos (by omega), k1]
      simp only [zk_l, zk_r, Option.toList_some, Option.toList_none, List.cons_append, List.nil_append, zrokB, zrokB0, zrokB1, zrokJ0, zrokJ1, and_true, true_and, and_self, if_true, if_false, b2_0, b2_1, b2_not, ite_self]
      rw [sg_112_48, sp_74 hx1]
      simp only [zk_l, zk_r, Option.toList_some, Option.toList_none, List.cons_append, List.nil_append, zrokB, zrokB0, zrokB1, zrokJ0, zrokJ1, and_true, true_and, and_self, if_true, if_false, b2_0, b2_1, b2_not, ite_self]
      rw [sg_112_55]
      refine (r1 _).trans ?_
      simp only [zk_l, zk_r, Option.toList_some, Option.toList_none, List.cons_append, List.nil_append, zrokB, zrokB0, zrokB1, zrokJ0, zrokJ1, and_true, true_and, and_self, if_true, if_false, b2_0, b2_1, b2_not, ite_self]
      rw [sg_112_64, sp_74 hx2]
      simp only [zk_l, zk_r, Option.toList_some, Option.toList_none, List.cons_append, List.nil_append, zrokB, zrokB0, zrokB1, zrokJ0, zrokJ1, and_true, true_and, and_self, if_true, if_false, b2_0, b2_1, b2_not, ite_self]
      rw [sg_112_71, jI_sub, hval]
    · have e55 := h348 355 (by decide)
      have e53 := h348 353 (by decide)
      have e9 : ∀ f, jrow J2 353 f 355 = J 355 := fun f => e355.trans e55
      obtain ⟨J', s1, s2, s3, s4, s5, -⟩ := rec55 (W := W) (th0_2 (th0_1 J2) (scpy (J 355) (jrow J2 353 (sset (J2 353) 0 0) 357) 472) (q := 357) (by decide)) (by rw [e53]; exact t.2.2.2.1.1) (by rw [e53]; exact t.2.2.2.1.2.1)
      rw [e55] at s2
      have s7 := s3 357 (by decide) (by decide)
      rw [jrow_same] at s7
      have he : eqS (J 355) (J' 357) := by rw [s7]; exact eqS_symm (scpy_eqS _ _)
      have hKe := okK_same t2 (same_eqS t2 he)
      have hDe := okD_eqS t2 t3 he
      have he6 : J' 357 6 = J 355 6 := (he 6 (by decide) (by decide)).symm
      refine ⟨jrow J' 355 (nights (J 355) m), fun Q => ?_, s5 _⟩
      rw [href J2 e55, decide_eq_true v]
      refine Eq.trans (sp_178t (W := W) 1) ?_
      simp only [zk_l, zk_r, Option.toList_some, Option.toList_none, List.cons_append, List.nil_append, zrokB, zrokB0, zrokB1, zrokJ0, zrokJ1, and_true, true_and, and_self, if_true, if_false, b2_0, b2_1, b2_not, ite_self]
      rw [sg_266_39, if_pos (by decide), sp_196 za_355 za_357 (by decide) (by decide) (by decide) (by decide) (by decide), e9]
      simp only [zk_l, zk_r, Option.toList_some, Option.toList_none, List.cons_append, List.nil_append, zrokB, zrokB0, zrokB1, zrokJ0, zrokJ1, and_true, true_and, and_self, if_true, if_false, b2_0, b2_1, b2_not, ite_self]
      rw [sg_266_55, s1]
      simp only [zk_l, zk_r, Option.toList_some, Option.toList_none, List.cons_append, List.nil_append, zrokB, zrokB0, zrokB1, zrokJ0, zrokJ1, and_true, true_and, and_self, if_true, if_false, b2_0, b2_1, b2_not, ite_self]
      rw [sg_266_63]
      have hlp : ∀ (i : Nat), i ≤ m → ∀ Q : zO → zI → Prop, wz W 266 65 [.ref 353, .int (jI m), .int (jI (m - i : Nat))] [] (jm (jrow J' 355 (nights (J 355) (m - i)))) Q = Q (oI (cntW (J 355) (nights (J 355) m) (J 355 6).toNat)) (jm (jrow J' 355 (nights (J 355) m))) := by
        intro i
        induction i with
        | zero =>
          intro _ Q
          rw [Nat.sub_zero, sg_266_65, if_pos (Int32.le_refl _), sp_265 (D := 365) (k := k) (D' := 365 + m) (k' := k) za_357 za_355 (by rw [jrow_ne (by decide)]; exact hKe) (by rw [jrow_ne (by decide)]; exact hDe) (by decide) (by rw [jrow_same]; exact ok3) (by rw [jrow_same]; exact ok2) (by omega) (by rw [jrow_same, jrow_ne (by decide), he6, n6]), jrow_same, jrow_ne (show 357 ≠ 355 by decide), n6, cntW_cg t2 t3 he]
          simp only [zk_l, zk_r, Option.toList_some, Option.toList_none, List.cons_append, List.nil_append, zrokB, zrokB0, zrokB1, zrokJ0, zrokJ1, and_true, true_and, and_self, if_true, if_false, b2_0, b2_1, b2_not, ite_self]
          rw [sg_266_94]
        | succ i ih =>
          intro hi Q
          obtain ⟨x1, x2⟩ := nights_ok t2 t3 hk0 hk1 (m - (i + 1))
          rw [sg_266_65, if_neg (by rw [jI_le (by omega) (by omega) (by omega) (by omega)]; omega), sp_263 (D := 365 + (m - (i + 1) : Nat)) (k := k) za_355 (by rw [jrow_same]; exact okK_same t2 x1) (by rw [jrow_same]; exact x2) hk0 hk1 (by omega), jrow_same, jrow_jrow]
          simp only [zk_l, zk_r, Option.toList_some, Option.toList_none, List.cons_append, List.nil_append, zrokB, zrokB0, zrokB1, zrokJ0, zrokJ1, and_true, true_and, and_self, if_true, if_false, b2_0, b2_1, b2_not, ite_self]
          have e1 : fNight (nights (J 355) (m - (i + 1))) = nights (J 355) (m - i) := by rw [show m - i = (m - (i + 1)) + 1 by omega]; rfl
          rw [sg_266_77, jI_add, e1, show ((m - (i + 1) : Nat) : Int) + 1 = (m - i : Nat) by omega]
          exact ih (by omega) Q
      have h0 := hlp m (Nat.le_refl _) Q
      rw [Nat.sub_self] at h0
      have e0 : jrow J' 355 (nights (J 355) 0) = J' := by
        show jrow J' 355 (J 355) = J'
        rw [← s2, jrow_id]
      rw [e0] at h0
      exact h0
  · refine opq g t ⟨oE 1, J, 0, jrow J 353 (sset (J 353) 0 1), fun Q => ?_, fun Q => ?_, kp_thr, mt_er 0 1 rfl rfl⟩
    · rw [sg_112_0]
      by_cases c1 : n < 1
      · rw [if_pos (by rw [jI_lt (by omega) (by omega) (by omega) (by omega)]; omega), sg_112_26]
      · rw [if_neg (by rw [jI_lt (by omega) (by omega) (by omega) (by omega)]; omega)]
        by_cases c2 : 60 < n
        · rw [if_pos (by rw [jI_lt (by omega) (by omega) (by omega) (by omega)]; omega), sg_112_26]
        · rw [if_neg (by rw [jI_lt (by omega) (by omega) (by omega) (by omega)]; omega)]
          simp (disch := first | assumption | omega) only [d1, zk_l, zk_r, Option.toList_some, Option.toList_none, List.cons_append, List.nil_append, zrokB, zrokB0, zrokB1, zrokJ0, zrokJ1, and_true, true_and, and_self, if_true, if_false, b2_0, b2_1, b2_not, ite_self, Int.add_zero, jI_nat, jI_add, jI_sub, jI_mul, jI_neg, jI_lt, jI_le, jI_eq, jI_lt0, jI_0lt, jI_le0, jI_0le, jI_eq0, jI_in, jI_dv, i_mod, jI_cl, jm_n, jz_n, i_lit, i_c0, i_c1, Int.toNat_of_nonneg, Int.toNat_natCast, jrow_same, jrow_ne, jrow_jrow, sset_eq, sset_ne]
          rw [if_neg (by omega), sg_112_26]
    · rw [href J rfl, decide_eq_false v]
      refine Eq.trans (sp_178f (W := W) 1) ?_
      simp only [sset_ss, zk_l, zk_r, Option.toList_some, Option.toList_none, List.cons_append, List.nil_append, zrokB, zrokB0, zrokB1, zrokJ0, zrokJ1, and_true, true_and, and_self, if_true, if_false, b2_0, b2_1, b2_not, ite_self, jI_cl, jm_n, jz_n, i_lit, i_c0, i_c1, Int.toNat_of_nonneg, Int.toNat_natCast, jrow_same, jrow_ne, jrow_jrow, sset_eq, sset_ne]
      rw [sg_266_39, if_neg (by decide)]
end
