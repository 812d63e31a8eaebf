/-! ===== calls that only ask, fifth lot ===== -/
section
variable {W : zW} {J : zJ} {Q : zO → zI → Prop} {k : Int}
/-- the chamber and the cell of a stored pallet -/
theorem op_obstacles (hk : k ≤ 30000) {p : Int} (p1 : -2147483648 ≤ p) (p2 : p < 2147483648) : Op W k [0, 2, 3] 149 306 [.ref 0, .int (jI p), .float 0, .float 0, .float 0] [.ref 353, .int (jI p), .float 0, .float 0] := by
  refine Op.q (fun J g t => ?_)
  obtain ⟨-, t2, t3, -⟩ := id t
  obtain ⟨a1', a2', a3', a4', a5', a6'⟩ := t3.1
  obtain ⟨b1, b2x, b3, b4, b5, b6, b7, b8, b9, b10, b11, b12⟩ := t2.1
  obtain ⟨-, hS, hU, -⟩ := id g
  obtain ⟨d1, d2, d3, hpl, hq, hc, ho⟩ := id hS
  have hcx := GC_cx g t hk
  by_cases v : 0 ≤ p ∧ p < J 355 6
  · obtain ⟨e1, e2, e3, e4, -⟩ := RS_p hS v.1 v.2
    obtain ⟨q1, q2, q3, q4, q5, q6, -⟩ := t3.2.2.2.1 p v.1 v.2
    have href : ∀ Q : zO → zI → Prop, wz W 306 0 [.ref 353, .int (jI p), .float 0, .float 0] [] (jm J) Q = wz W 178 0 [.ref 353, .int (b2 (decide (J 355 (72 + 7 * p + 2) = 1))), .int (jI 2)] [] (jm (jrow J 353 (sset (J 353) 0 0))) (zk Q (fun v I1 => wz W 306 38 [.ref 353, .int (jI p), .float 0, .float 0] (v.toList ++ []) I1 Q)) := by
      intro Q
      rw [sg_306_0]
      simp (disch := first | assumption | omega) only [jI_cl, jm_n, jz_n, i_lit, i_c0, i_c1, Int.toNat_of_nonneg, Int.toNat_natCast, jrow_same, jrow_ne, jrow_jrow, sset_eq, sset_ne]
      rw [sp_217v v.1 (by rw [e355]; exact v.2) (by rw [e355]; exact a4')]
      simp only [zk_l, zk_r, Option.toList_some, Option.toList_none, List.cons_append, List.nil_append, zrokB, zrokB0, zrokB1, zrokJ0, zrokJ1, and_true, true_and, and_self, if_true, if_false, b2_0, b2_1, b2_not, ite_self]
      rw [sg_306_11, sp_178t]
      simp only [zk_l, zk_r, Option.toList_some, Option.toList_none, List.cons_append, List.nil_append, zrokB, zrokB0, zrokB1, zrokJ0, zrokJ1, and_true, true_and, and_self, if_true, if_false, b2_0, b2_1, b2_not, ite_self]
      rw [sg_306_15, if_pos (by decide), sp_221 (by omega) v.1 (by omega), e355]
      simp only [zk_l, zk_r, Option.toList_some, Option.toList_none, List.cons_append, List.nil_append, zrokB, zrokB0, zrokB1, zrokJ0, zrokJ1, and_true, true_and, and_self, if_true, if_false, b2_0, b2_1, b2_not, ite_self]
      rw [sg_306_25]
      by_cases c : J 355 (72 + 7 * p + 2) = 1
      · rw [if_pos (by rw [c]), sg_306_34, decide_eq_true c]; rfl
      · rw [if_neg (by rw [jI_eq (by omega) (by omega) (by omega) (by omega)]; exact c), sg_306_34, decide_eq_false c]; rfl
    by_cases w : J 355 (72 + 7 * p + 2) = 1
    · obtain ⟨w0, w1, w2, w3, -⟩ : 0 ≤ J 355 (72 + 7 * p + 3) ∧ J 355 (72 + 7 * p + 3) / 24 < J 355 4 ∧ J 355 (72 + 7 * p + 3) % 24 < nC (J 355) (J 355 (72 + 7 * p + 3) / 24) ∧ J 355 (400 + J 355 (72 + 7 * p + 3)) = p ∧ J 355 (72 + 7 * p + 2) = 1 := by
        rcases okW_or t3.2.2.2.2.1 t2 v.1 v.2 with h | h
        · have := ((t3.2.2.2.2.1 p v.1 v.2).1 w).1; omega
        · exact h
      rw [decide_eq_true w] at href
      have ec : chOf (J 355 (72 + 7 * p + 3)) = J 355 (72 + 7 * p + 3) / 24 := (ch_eq (by omega) (by omega)).mpr rfl
      rw [ec] at e3
      rw [ce_eq w0] at e4
      generalize hx : J 355 (72 + 7 * p + 3) = x at *
      obtain ⟨en, n1, n2, rr1, rr2, c1, c2, c3⟩ := nC_eq t2 (c := x / 24) (by omega) w1
      obtain ⟨hG, hdr⟩ := ru_ch hU t2 (c := x / 24) (by omega) w1
      have hcb : zChb (5 + 19 + (x / 24).toNat) := zStp_c zStp_5 (by omega)
      have hsmC := ok_smC t3.2.2.2.2.2.1 t3.2.2.2.1 a4' (c := x / 24) (by omega) c3
      obtain ⟨x', y1, y2, y3⟩ := sp_233 (W := W) (J := jrow J 353 (sset (J 353) 0 0)) (own := p) (c := x / 24) (by rw [e355]; exact t2) (by omega) (by rw [e355]; exact w1) (by rw [e355]; exact hsmC) (by omega) (by omega) true
      rw [e355] at y1 y2
      have hob : obC (nb (gC (J 355) (x / 24))) (nC (J 355) (x / 24)) (drs (J 355) (x / 24)) (fun k => frB (J 355) (x / 24) k || decide (k = x % 24)) (x % 24) = x' (x % 24) := by
        refine ob_least n2 (v := prc (J 355) (x / 24) p true) (c0 := dc0 (J 355) (x / 24) p true) (fun j j0 j1 => ?_) (fun j j0 j1 => rfl) y1 (by omega) w2 (y2 _ (by omega) w2)
        unfold prc frB
        rw [if_pos rfl, if_pos rfl]
        by_cases f1 : J 355 (400 + 24 * (x / 24) + j) = -1
        · rw [if_pos (Or.inl f1), decide_eq_true f1, Bool.true_or, if_pos rfl]
        · rw [decide_eq_false f1, Bool.false_or]
          by_cases f2 : J 355 (400 + 24 * (x / 24) + j) = p
          · rcases t3.2.2.2.2.2.1 (24 * (x / 24) + j) (by omega) (by omega) with h9 | ⟨-, -, h9⟩
            · exact absurd (by rw [← h9]; congr 1; omega) f1
            · rw [show 400 + (24 * (x / 24) + j) = 400 + 24 * (x / 24) + j by omega, f2, hx] at h9
              rw [if_pos (Or.inr f2), if_pos (decide_eq_true (by omega))]
          · rw [if_neg (by omega), if_neg]
            intro h9
            have h9 := of_decide_eq_true h9
            apply f2
            rw [h9, show 400 + 24 * (x / 24) + x % 24 = 400 + x by omega]
            exact w3
      have hy := y2 (x % 24) (by omega) w2
      have hclass : ∀ Q : zO → zI → Prop, wz W 149 0 [.ref 0, .int (jI p), .float 0, .float 0, .float 0] [] (jm J) Q = if x' (x % 24) = -1 then Q (oE 3) (jm J) else Q (oI (x' (x % 24))) (jm J) := by
        intro Q
        rw [sg_149_0, sp_163v v.1 (by omega) (by omega)]
        simp only [zk_l, zk_r, Option.toList_some, Option.toList_none, List.cons_append, List.nil_append, zrokB, zrokB0, zrokB1, zrokJ0, zrokJ1, and_true, true_and, and_self, if_true, if_false, b2_0, b2_1, b2_not, ite_self]
        rw [sg_149_5, sp_45 (zStk_r4 zStk_49) v.1 (by omega) (by decide), e2, w]
        simp only [zk_l, zk_r, Option.toList_some, Option.toList_none, List.cons_append, List.nil_append, zrokB, zrokB0, zrokB1, zrokJ0, zrokJ1, and_true, true_and, and_self, if_true, if_false, b2_0, b2_1, b2_not, ite_self]
        rw [sg_149_16, if_pos rfl, sp_45 (zStk_r5 zStk_49) v.1 (by omega) (by decide), e3]
        simp only [zk_l, zk_r, Option.toList_some, Option.toList_none, List.cons_append, List.nil_append, zrokB, zrokB0, zrokB1, zrokJ0, zrokJ1, and_true, true_and, and_self, if_true, if_false, b2_0, b2_1, b2_not, ite_self]
        rw [sg_149_41, sp_45 (zStk_r6 zStk_49) v.1 (by omega) (by decide), e4]
        simp only [zk_l, zk_r, Option.toList_some, Option.toList_none, List.cons_append, List.nil_append, zrokB, zrokB0, zrokB1, zrokJ0, zrokJ1, and_true, true_and, and_self, if_true, if_false, b2_0, b2_1, b2_not, ite_self]
        rw [sg_149_53, sp_53 zStp_5 (by omega) c3]
        simp only [zk_l, zk_r, Option.toList_some, Option.toList_none, List.cons_append, List.nil_append, zrokB, zrokB0, zrokB1, zrokJ0, zrokJ1, and_true, true_and, and_self, if_true, if_false, b2_0, b2_1, b2_not, ite_self]
        rw [sg_149_62 (hqt0 := hcb), sp_77 hcx (by omega) w1]
        simp only [zk_l, zk_r, Option.toList_some, Option.toList_none, List.cons_append, List.nil_append, zrokB, zrokB0, zrokB1, zrokJ0, zrokJ1, and_true, true_and, and_self, if_true, if_false, b2_0, b2_1, b2_not, ite_self]
        rw [sg_149_70 (hqt0 := hcb), sp_7 hcb hG hdr (frB (J 355) (x / 24)) (by omega) w2, hob]
        simp only [zk_l, zk_r, Option.toList_some, Option.toList_none, List.cons_append, List.nil_append, zrokB, zrokB0, zrokB1, zrokJ0, zrokJ1, and_true, true_and, and_self, if_true, if_false, b2_0, b2_1, b2_not, ite_self]
        rw [sg_149_74]
        by_cases f : x' (x % 24) = -1
        · rw [if_pos (by rw [f]), if_pos f]
        · rw [if_neg (by rw [jI_eq (by omega) (by omega) (by omega) (by omega)]; exact f), if_neg f]
      have href2 : ∀ Q : zO → zI → Prop, wz W 306 0 [.ref 353, .int (jI p), .float 0, .float 0] [] (jm J) Q = wz W 178 0 [.ref 353, .int (b2 (decide (x' (x % 24) ≠ -1))), .int (jI 3)] [] (jm (jrow (jrow J 353 (sset (J 353) 0 0)) 358 x')) (zk Q (fun v I1 => wz W 306 90 [.ref 353, .int (jI p), .int (jI (x / 24)), .int (jI (x' (x % 24)))] (v.toList ++ []) I1 Q)) := by
        intro Q
        rw [href, sp_178t]
        simp only [zk_l, zk_r, Option.toList_some, Option.toList_none, List.cons_append, List.nil_append, zrokB, zrokB0, zrokB1, zrokJ0, zrokJ1, and_true, true_and, and_self, if_true, if_false, b2_0, b2_1, b2_not, ite_self]
        rw [sg_306_38, if_pos (by decide), sp_221 (by omega) v.1 (by omega), e355, hx]
        simp only [zk_l, zk_r, Option.toList_some, Option.toList_none, List.cons_append, List.nil_append, zrokB, zrokB0, zrokB1, zrokJ0, zrokJ1, and_true, true_and, and_self, if_true, if_false, b2_0, b2_1, b2_not, ite_self]
        rw [sg_306_49]
        simp (disch := first | assumption | omega) only [Int.add_zero, jI_nat, jI_add, jI_sub, jI_mul, jI_neg, jI_lt, jI_le, jI_eq, jI_lt0, jI_0lt, jI_le0, jI_0le, jI_eq0, jI_in, jI_dv, i_mod]
        refine (y3 _).trans ?_
        simp only [zk_l, zk_r, Option.toList_some, Option.toList_none, List.cons_append, List.nil_append, zrokB, zrokB0, zrokB1, zrokJ0, zrokJ1, and_true, true_and, and_self, if_true, if_false, b2_0, b2_1, b2_not, ite_self]
        have e9 : jrow (jrow J 353 (sset (J 353) 0 0)) 358 x' 355 = J 355 := by rw [jrow_ne (by decide), e355]
        have e8 : jrow (jrow J 353 (sset (J 353) 0 0)) 358 x' 358 = x' := jrow_same
        rw [sg_306_60, sp_221 (by omega) v.1 (by omega), e9, hx]
        simp only [zk_l, zk_r, Option.toList_some, Option.toList_none, List.cons_append, List.nil_append, zrokB, zrokB0, zrokB1, zrokJ0, zrokJ1, and_true, true_and, and_self, if_true, if_false, b2_0, b2_1, b2_not, ite_self]
        rw [sg_306_70 (hqt0 := za_358)]
        simp (disch := first | assumption | omega) only [e8, zk_l, zk_r, Option.toList_some, Option.toList_none, List.cons_append, List.nil_append, zrokB, zrokB0, zrokB1, zrokJ0, zrokJ1, and_true, true_and, and_self, if_true, if_false, b2_0, b2_1, b2_not, ite_self, Int.add_zero, jI_nat, jI_add, jI_sub, jI_mul, jI_neg, jI_lt, jI_le, jI_eq, jI_lt0, jI_0lt, jI_le0, jI_0le, jI_eq0, jI_in, jI_dv, i_mod, jI_cl, jm_n, jz_n, i_lit, i_c0, i_c1, Int.toNat_of_nonneg, Int.toNat_natCast, jrow_same, jrow_ne, jrow_jrow, sset_eq, sset_ne]
        by_cases f : x' (x % 24) = -1
        · rw [if_pos f, sg_306_86, decide_eq_false (by omega)]; rfl
        · rw [if_neg f, sg_306_86, decide_eq_true f]; rfl
      by_cases f : x' (x % 24) = -1
      · refine ⟨oE 3, J, 0, jrow (jrow (jrow J 353 (sset (J 353) 0 0)) 358 x') 353 (sset (jrow (jrow J 353 (sset (J 353) 0 0)) 358 x' 353) 0 3), fun Q => ?_, fun Q => ?_, kp_trans kp_thr2 kp_thr, mt_er 2 3 rfl rfl⟩
        · rw [hclass, if_pos f]
        · rw [href2, decide_eq_false (by omega), sp_178f]
          simp only [zk_l, zk_r, Option.toList_some, Option.toList_none, List.cons_append, List.nil_append, zrokB, zrokB0, zrokB1, zrokJ0, zrokJ1, and_true, true_and, and_self, if_true, if_false, b2_0, b2_1, b2_not, ite_self]
          rw [sg_306_90, if_neg (by decide), sg_306_98]
      · refine ⟨oI (x' (x % 24)), J, x' (x % 24), jrow (jrow J 353 (sset (J 353) 0 0)) 358 x', fun Q => ?_, fun Q => ?_, kp_thr2, Or.inl ⟨rfl, by rw [jrow_ne (by decide), jrow_same, sset_eq rfl]⟩⟩
        · rw [hclass, if_neg f]
        · rw [href2, decide_eq_true f, sp_178t]
          simp only [zk_l, zk_r, Option.toList_some, Option.toList_none, List.cons_append, List.nil_append, zrokB, zrokB0, zrokB1, zrokJ0, zrokJ1, and_true, true_and, and_self, if_true, if_false, b2_0, b2_1, b2_not, ite_self]
          rw [sg_306_90, if_pos (by decide), sg_306_98]
    · refine ⟨oE 2, J, 0, jrow J 353 (sset (J 353) 0 2), fun Q => ?_, fun Q => ?_, kp_thr, mt_er 1 2 rfl rfl⟩
      · rw [sg_149_0, sp_163v v.1 (by omega) (by omega)]
        simp only [zk_l, zk_r, Option.toList_some, Option.toList_none, List.cons_append, List.nil_append, zrokB, zrokB0, zrokB1, zrokJ0, zrokJ1, and_true, true_and, and_self, if_true, if_false, b2_0, b2_1, b2_not, ite_self]
        rw [sg_149_5, sp_45 (zStk_r4 zStk_49) v.1 (by omega) (by decide), e2]
        simp only [zk_l, zk_r, Option.toList_some, Option.toList_none, List.cons_append, List.nil_append, zrokB, zrokB0, zrokB1, zrokJ0, zrokJ1, and_true, true_and, and_self, if_true, if_false, b2_0, b2_1, b2_not, ite_self]
        rw [sg_149_16, if_neg (by rw [jI_eq (by omega) (by omega) (by omega) (by omega)]; exact w)]
      · rw [href, decide_eq_false w, sp_178f]
        simp only [sset_ss, zk_l, zk_r, Option.toList_some, Option.toList_none, List.cons_append, List.nil_append, zrokB, zrokB0, zrokB1, zrokJ0, zrokJ1, and_true, true_and, and_self, if_true, if_false, b2_0, b2_1, b2_not, ite_self, jI_cl, jm_n, jz_n, i_lit, i_c0, i_c1, Int.toNat_of_nonneg, Int.toNat_natCast, jrow_same, jrow_ne, jrow_jrow, sset_eq, sset_ne]
        rw [sg_306_38, if_neg (by decide), sg_306_41]
  · refine ⟨oE 0, J, 0, jrow J 353 (sset (J 353) 0 1), fun Q => ?_, fun Q => ?_, kp_thr, mt_er 0 0 rfl rfl⟩
    · rw [sg_149_0, sp_163n p1 p2 (by rw [d2]; exact v) (by omega) (by omega)]
      simp only [zk_l, zk_r, Option.toList_some, Option.toList_none, List.cons_append, List.nil_append, zrokB, zrokB0, zrokB1, zrokJ0, zrokJ1, and_true, true_and, and_self, if_true, if_false, b2_0, b2_1, b2_not, ite_self]
    · rw [sg_306_0]
      simp (disch := first | assumption | omega) only [jI_cl, jm_n, jz_n, i_lit, i_c0, i_c1, Int.toNat_of_nonneg, Int.toNat_natCast, jrow_same, jrow_ne, jrow_jrow, sset_eq, sset_ne]
      rw [sp_217n p1 p2 (by rw [e355]; exact v) (by rw [e355]; exact a3') (by rw [e355]; exact a4')]
      simp only [zk_l, zk_r, Option.toList_some, Option.toList_none, List.cons_append, List.nil_append, zrokB, zrokB0, zrokB1, zrokJ0, zrokJ1, and_true, true_and, and_self, if_true, if_false, b2_0, b2_1, b2_not, ite_self]
      rw [sg_306_11, sp_178f]
      simp only [sset_ss, zk_l, zk_r, Option.toList_some, Option.toList_none, List.cons_append, List.nil_append, zrokB, zrokB0, zrokB1, zrokJ0, zrokJ1, and_true, true_and, and_self, if_true, if_false, b2_0, b2_1, b2_not, ite_self, jI_cl, jm_n, jz_n, i_lit, i_c0, i_c1, Int.toNat_of_nonneg, Int.toNat_natCast, jrow_same, jrow_ne, jrow_jrow, sset_eq, sset_ne]
      rw [sg_306_15, if_neg (by decide), sg_306_41]
/-- the suitable pallets of a chamber, cell by cell -/
def cntE (s : Int → Int) (c t : Int) (n : Nat) : Nat := cntB (fun k => decide (s (400 + 24 * c + (k : Int)) ≠ -1) && sui s (s (72 + 7 * s (400 + 24 * c + (k : Int)))) t) n
theorem cntE_in {s : Int → Int} (hW : okW s) (hL : okL s) {c t : Int} (c0 : 0 ≤ c) (c1 : c < 3) : ∀ n : Nat, n ≤ 24 → cntB (fun p => decide (24 * c ≤ s (72 + 7 * (p : Int) + 3) ∧ s (72 + 7 * (p : Int) + 3) < 24 * c + n) && sui s (s (72 + 7 * (p : Int))) t) (s 6).toNat = cntE s c t n := by
  intro n
  have hz : ∀ (q : Nat → Bool) (m : Nat), (∀ i, i < m → q i = false) → cntB q m = 0 := by
    intro q m
    induction m with
    | zero => intro _; rfl
    | succ m ih =>
      intro h
      rw [cnt_step, ih (fun i hi => h i (by omega)), h m (by omega)]
      rfl
  have hx : ∀ p : Nat, p < (s 6).toNat → 0 ≤ s (72 + 7 * (p : Int) + 3) → s (400 + s (72 + 7 * (p : Int) + 3)) = p := by
    intro p hp h0
    obtain ⟨h1, h2⟩ := hW p (by omega) (by omega)
    by_cases q : s (72 + 7 * (p : Int) + 2) = 1
    · exact (h1 q).2.2.2
    · have := h2 q; omega
  induction n with
  | zero =>
    intro _
    refine hz _ _ (fun i hi => ?_)
    rw [decide_eq_false (by omega), Bool.false_and]
  | succ n ih =>
    intro hn
    have ih := ih (by omega)
    unfold cntE at ih ⊢
    rw [cnt_step, ← ih]
    rcases hL (24 * c + n) (by omega) (by omega) with h | ⟨h1, h2, h3⟩
    · have h' : s (400 + 24 * c + (n : Int)) = -1 := by rw [← h]; congr 1; omega
      rw [decide_eq_false (by omega), Bool.false_and, if_neg (by decide), Nat.add_zero]
      refine cntB_cg _ (fun p hp => ?_)
      congr 1
      rw [decide_eq_decide]
      constructor
      · rintro ⟨x, y⟩
        refine ⟨x, ?_⟩
        by_cases e : s (72 + 7 * (p : Int) + 3) = 24 * c + n
        · have := hx p hp (by omega)
          rw [e, h] at this
          omega
        · omega
      · rintro ⟨x, y⟩; omega
    · rw [show 400 + (24 * c + (n : Int)) = 400 + 24 * c + n by omega] at h1 h2 h3
      generalize hq : s (400 + 24 * c + (n : Int)) = q at *
      rw [decide_eq_true (by omega), Bool.true_and]
      have hne : ∀ p : Nat, p < (s 6).toNat → p ≠ q.toNat → s (72 + 7 * (p : Int) + 3) ≠ 24 * c + n := by
        intro p hp hpq e
        have := hx p hp (by omega)
        rw [e, show 400 + (24 * c + (n : Int)) = 400 + 24 * c + n by omega, hq] at this
        omega
      by_cases hs : sui s (s (72 + 7 * q)) t = true
      · rw [if_pos hs]
        refine cntB_up _ q.toNat (by omega) (fun p hp hpq => ?_) ?_ ?_
        · have := hne p hp hpq
          congr 1
          rw [decide_eq_decide]
          omega
        · rw [Int.toNat_of_nonneg h1, h3, decide_eq_true (by omega), Bool.true_and]
          exact hs
        · rw [Int.toNat_of_nonneg h1, h3, decide_eq_false (by omega), Bool.false_and]
      · rw [if_neg hs, Nat.add_zero]
        refine cntB_cg _ (fun p hp => ?_)
        by_cases e : p = q.toNat
        · rw [e, Int.toNat_of_nonneg h1]
          have : sui s (s (72 + 7 * q)) t = false := by rw [← Bool.not_eq_true]; exact hs
          rw [this, Bool.and_false, Bool.and_false]
        · have := hne p hp e
          congr 1
          rw [decide_eq_decide]
          omega
theorem cntE_U {s : Int → Int} (hK : okK s) (hW : okW s) (hL : okL s) {c t : Int} (c0 : 0 ≤ c) (c1 : c < s 4) : cntU s c t (s 6).toNat = cntE s c t (nC s c) := by
  obtain ⟨en, n1, n2, rr1, rr2, w1, w2, c3⟩ := nC_eq hK c0 c1
  rw [← cntE_in hW hL c0 c3 _ n2]
  refine cntB_cg _ (fun p hp => ?_)
  congr 1
  rw [decide_eq_decide]
  have hw := okW_or hW hK (p := p) (by omega) (by omega)
  generalize s (72 + 7 * (p : Int) + 3) = x at *
  constructor
  · intro h
    have h1 := (ch_eq (by omega) c0).mp h
    rw [h1] at hw
    omega
  · rintro ⟨h1, h2⟩
    exact (ch_eq (by omega) c0).mpr (by omega)
/-- suits -/
theorem sp_253 (hK : okK (J 355)) {g t : Int} (g0 : 0 ≤ g) (g1 : g < J 355 5) (t0 : -1000 ≤ t) (t1 : t ≤ 1000) : wz W 253 0 [.ref 353, .int (jI g), .int (jI t)] [] (jm J) Q = Q (oB (sui (J 355) g t)) (jm J) := by
  obtain ⟨b1, b2, b3, b4, b5, b6, b7, b8, b9, b10, b11, b12⟩ := hK.1
  obtain ⟨d1, d2, d3, d4, d5, d6, d7, d8, d9, d10, d11⟩ := hK.2.2.1 g g0 g1
  rw [sg_253_0, sp_220 (by omega) g0 (by omega)]
  simp only [zk_l, zk_r, Option.toList_some, Option.toList_none, List.cons_append, List.nil_append, zrokB, zrokB0, zrokB1, zrokJ0, zrokJ1, and_true, true_and, and_self, if_true, if_false, b2_0, b2_1, b2_not, ite_self]
  rw [sg_253_7, sp_220 (by omega) g0 (by omega)]
  simp only [zk_l, zk_r, Option.toList_some, Option.toList_none, List.cons_append, List.nil_append, zrokB, zrokB0, zrokB1, zrokJ0, zrokJ1, and_true, true_and, and_self, if_true, if_false, b2_0, b2_1, b2_not, ite_self]
  rw [sg_253_13, sp_176j (by omega) (by omega) (by omega) (by omega) (by omega) (by omega)]
  simp only [zk_l, zk_r, Option.toList_some, Option.toList_none, List.cons_append, List.nil_append, zrokB, zrokB0, zrokB1, zrokJ0, zrokJ1, and_true, true_and, and_self, if_true, if_false, b2_0, b2_1, b2_not, ite_self]
  rw [sg_253_16]
  simp only [zk_l, zk_r, Option.toList_some, Option.toList_none, List.cons_append, List.nil_append, zrokB, zrokB0, zrokB1, zrokJ0, zrokJ1, and_true, true_and, and_self, if_true, if_false, b2_0, b2_1, b2_not, ite_self]
  rfl
/-- the best temperature among the first -/
def bsP (u : Int → Nat) : Nat → Int × Int
  | 0 => (-30, 0)
  | j + 1 => if (u (-30 + (j : Int)) : Int) ≤ (bsP u j).2 then bsP u j else (-30 + (j : Int), (u (-30 + (j : Int)) : Int))
theorem bsP_bd {u : Int → Nat} {n : Nat} (h : ∀ t, u t ≤ n) : ∀ j : Nat, 0 ≤ (bsP u j).2 ∧ (bsP u j).2 ≤ n ∧ -30 ≤ (bsP u j).1 ∧ (bsP u j).1 ≤ -30 + j := by
  intro j
  induction j with
  | zero => exact ⟨Int.le_refl 0, by show (0 : Int) ≤ n; omega, Int.le_refl _, by show (-30 : Int) ≤ -30 + (0 : Nat); omega⟩
  | succ j ih =>
    have := h (-30 + (j : Int))
    unfold bsP
    split
    · omega
    · exact ⟨by show (0 : Int) ≤ u _; omega, by show ((u _ : Nat) : Int) ≤ n; omega, by show (-30 : Int) ≤ -30 + j; omega, by show (-30 : Int) + j ≤ -30 + (j + 1 : Nat); omega⟩
theorem op_bestSetpoint (hk : k ≤ 30000) {a : Int} (a1 : -2147483648 ≤ a) (a2 : a < 2147483648) : Op W k [0] 151 313 [.ref 0, .int (jI a), .float 0, .float 0, .float 0, .float 0] [.ref 353, .int (jI a), .float 0, .float 0, .float 0, .float 0, .float 0, .float 0] := by
  refine Op.q (fun J g t => ?_)
  obtain ⟨-, t2, t3, -⟩ := id t
  obtain ⟨a1', a2', a3', a4', a5', a6'⟩ := t3.1
  obtain ⟨b1, b2x, b3, b4, b5, b6, b7, b8, b9, b10, b11, b12⟩ := t2.1
  obtain ⟨-, hS, hU, -⟩ := id g
  obtain ⟨d1, d2, d3, hpl, hq, hc, ho⟩ := id hS
  have hcx := GC_cx g t hk
  have hu3 := hU.2.1
  by_cases v : 0 ≤ a ∧ a < J 355 4
  · obtain ⟨en, n1, n2, rr1, rr2, w1, w2, c3⟩ := nC_eq t2 v.1 v.2
    let u : Int → Nat := fun t => cntE (J 355) a t (nC (J 355) a)
    have hu : ∀ t, u t ≤ 24 := fun t => Nat.le_trans (cntB_le _ _) n2
    have hbs := bsP_bd hu
    have hcl : ∀ (m : Nat), m ≤ 51 → ∀ (x5 : Value) (Q : zO → zI → Prop), wz W 151 14 [.ref 0, .int (jI a), .int (jI (bsP u (51 - m)).1), .int (jI (bsP u (51 - m)).2), .int (jI (-30 + (51 - m : Nat))), x5] [] (jm J) Q = Q (oI (bsP u 51).1) (jm J) := by
      intro m
      induction m with
      | zero =>
        intro _ x5 Q
        rw [sg_151_14, if_pos (by decide)]
      | succ m ih =>
        intro hm x5 Q
        have hb := hbs (51 - (m + 1))
        have hut := hu (-30 + (51 - (m + 1) : Nat))
        rw [sg_151_14, if_neg (by rw [jI_lt (by omega) (by omega) (by omega) (by omega)]; omega), sp_80 hcx v.1 v.2 (by omega) (by omega), cntE_U t2 t3.2.2.2.2.1 t3.2.2.2.2.2.1 v.1 v.2]
        show zk _ _ (oI (u (-30 + (51 - (m + 1) : Nat)))) _ = _
        simp only [zk_l, zk_r, Option.toList_some, Option.toList_none, List.cons_append, List.nil_append, zrokB, zrokB0, zrokB1, zrokJ0, zrokJ1, and_true, true_and, and_self, if_true, if_false, b2_0, b2_1, b2_not, ite_self]
        have e9 : 51 - m = (51 - (m + 1)) + 1 := by omega
        have e8 : (-30 : Int) + (51 - (m + 1) : Nat) + 1 = -30 + (51 - m : Nat) := by omega
        rw [sg_151_31]
        by_cases f : (u (-30 + (51 - (m + 1) : Nat)) : Int) ≤ (bsP u (51 - (m + 1))).2
        · have e : bsP u (51 - m) = bsP u (51 - (m + 1)) := by rw [e9]; show (if _ then _ else _) = _; rw [if_pos f]
          rw [if_pos (by rw [jI_le (by omega) (by omega) (by omega) (by omega)]; exact f), sg_151_45, jI_add, e8, ← e]
          exact ih (by omega) _ Q
        · have e : bsP u (51 - m) = ((-30 : Int) + (51 - (m + 1) : Nat), (u (-30 + (51 - (m + 1) : Nat)) : Int)) := by rw [e9]; show (if _ then _ else _) = _; rw [if_neg f]
          rw [if_neg (by rw [jI_le (by omega) (by omega) (by omega) (by omega)]; exact f), sg_151_45, jI_add, e8]
          have := ih (by omega) (.int (jI (u (-30 + (51 - (m + 1) : Nat))))) Q
          rw [e] at this
          exact this
    have hin : ∀ (t : Int), -30 ≤ t → t ≤ 20 → ∀ (R : Prop) (x2 x3 : Int32) (Q : zO → zI → Prop), (∀ (x6 : Int32) (x7 : Value), wz W 313 49 [.ref 353, .int (jI a), .int x2, .int x3, .int (jI t), .int (jI (u t)), .int x6, x7] [.int (jI (nC (J 355) a)), .int (jI (nC (J 355) a))] (jm (jrow J 353 (sset (J 353) 0 0))) Q = R) → ∀ (m : Nat), m ≤ nC (J 355) a → ∀ x7 : Value, wz W 313 42 [.ref 353, .int (jI a), .int x2, .int x3, .int (jI t), .int (jI (cntE (J 355) a t (nC (J 355) a - m))), .int (jI (nC (J 355) a - m : Nat)), x7] [] (jm (jrow J 353 (sset (J 353) 0 0))) Q = R := by
      intro t s0 s1 R x2 x3 Q hR m
      induction m with
      | zero =>
        intro _ x7
        rw [sg_313_42, sp_225k (J := jrow J 353 (sset (J 353) 0 0)) (by rw [e355]; exact t2) v.1 (by rw [e355]; exact v.2), e355]
        simp only [zk_l, zk_r, Option.toList_some, Option.toList_none, List.cons_append, List.nil_append, zrokB, zrokB0, zrokB1, zrokJ0, zrokJ1, and_true, true_and, and_self, if_true, if_false, b2_0, b2_1, b2_not, ite_self]
        exact hR _ _
      | succ m ih =>
        intro hm x7
        have hl : ((nC (J 355) a - (m + 1) : Nat) : Int) + 1 = (nC (J 355) a - m : Nat) := by omega
        have hce : cntE (J 355) a t (nC (J 355) a - m) = cntE (J 355) a t (nC (J 355) a - (m + 1)) + (if (decide (J 355 (400 + 24 * a + ((nC (J 355) a - (m + 1) : Nat) : Int)) ≠ -1) && sui (J 355) (J 355 (72 + 7 * J 355 (400 + 24 * a + ((nC (J 355) a - (m + 1) : Nat) : Int)))) t) = true then 1 else 0) := by
          rw [show nC (J 355) a - m = (nC (J 355) a - (m + 1)) + 1 by omega]
          exact cnt_step _ _
        have hcl := cntB_le (fun k => decide (J 355 (400 + 24 * a + (k : Int)) ≠ -1) && sui (J 355) (J 355 (72 + 7 * J 355 (400 + 24 * a + (k : Int)))) t) (nC (J 355) a - (m + 1))
        have hcell := ok_cell t3.2.2.2.2.2.1 t3.2.2.2.1 v.1 c3 (k := (nC (J 355) a - (m + 1) : Nat)) (by omega) (by omega)
        rw [sg_313_42, sp_225k (J := jrow J 353 (sset (J 353) 0 0)) (by rw [e355]; exact t2) v.1 (by rw [e355]; exact v.2), e355]
        simp only [zk_l, zk_r, Option.toList_some, Option.toList_none, List.cons_append, List.nil_append, zrokB, zrokB0, zrokB1, zrokJ0, zrokJ1, and_true, true_and, and_self, if_true, if_false, b2_0, b2_1, b2_not, ite_self]
        rw [sg_313_49, if_neg (by rw [jI_le (by omega) (by omega) (by omega) (by omega)]; omega), sp_226 (by omega) v.1 (by omega), e355]
        simp only [zk_l, zk_r, Option.toList_some, Option.toList_none, List.cons_append, List.nil_append, zrokB, zrokB0, zrokB1, zrokJ0, zrokJ1, and_true, true_and, and_self, if_true, if_false, b2_0, b2_1, b2_not, ite_self]
        have ih := ih (by omega)
        rw [hce] at ih
        generalize hq : J 355 (400 + 24 * a + ((nC (J 355) a - (m + 1) : Nat) : Int)) = q at *
        rw [sg_313_59]
        by_cases f : q = -1
        · rw [if_pos (by rw [f]), sg_313_89, sg_313_90, jI_add, jI_add, hl, Int.add_zero]
          rw [decide_eq_false (by omega), Bool.false_and, if_neg (by decide), Nat.add_zero] at ih
          exact ih _
        · rw [if_neg (by rw [jI_eq (by omega) (by omega) (by omega) (by omega)]; exact f), sp_221 (by omega) (by omega) (by omega), e355]
          simp only [Int.add_zero, zk_l, zk_r, Option.toList_some, Option.toList_none, List.cons_append, List.nil_append, zrokB, zrokB0, zrokB1, zrokJ0, zrokJ1, and_true, true_and, and_self, if_true, if_false, b2_0, b2_1, b2_not, ite_self]
          rw [sg_313_77, sp_253 (by rw [e355]; exact t2) (by omega) (by rw [e355]; omega) (by omega) (by omega), e355]
          simp only [zk_l, zk_r, Option.toList_some, Option.toList_none, List.cons_append, List.nil_append, zrokB, zrokB0, zrokB1, zrokJ0, zrokJ1, and_true, true_and, and_self, if_true, if_false, b2_0, b2_1, b2_not, ite_self]
          rw [decide_eq_true (by omega), Bool.true_and] at ih
          rw [sg_313_82]
          cases hs : sui (J 355) (J 355 (72 + 7 * q)) t
          · rw [hs, if_neg (by decide), Nat.add_zero] at ih
            rw [if_pos (by decide), sg_313_89, sg_313_90, jI_add, jI_add, hl, Int.add_zero]
            exact ih _
          · rw [hs, if_pos rfl] at ih
            rw [if_neg (by decide), sg_313_90, jI_add, jI_add, hl]
            exact ih _
    have hend : ∀ (t : Int) (x2 x3 x5 z6 : Int32) (x7 : Value) (Q : zO → zI → Prop), wz W 313 49 [.ref 353, .int (jI a), .int x2, .int x3, .int (jI t), .int x5, .int z6, x7] [.int (jI (nC (J 355) a)), .int (jI (nC (J 355) a))] (jm (jrow J 353 (sset (J 353) 0 0))) Q = wz W 313 29 [.ref 353, .int (jI a), .int (if x5 ≤ x3 then x2 else jI t), .int (jmax x3 x5), .int (jI t + jI 1), .int x5, .int z6, x7] [] (jm (jrow J 353 (sset (J 353) 0 0))) Q := by
      intro t x2 x3 x5 z6 x7 Q
      rw [sg_313_49, if_pos (Int32.le_refl _)]
      by_cases f : x5 ≤ x3
      · rw [if_pos f, if_pos f, sg_313_111]
      · rw [if_neg f, if_neg f, sg_313_111]
    have hrf : ∀ (m : Nat), m ≤ 51 → ∀ (r : Int) (x5 x6 x7 : Value) (Q : zO → zI → Prop), (r = (bsP u (51 - m)).2 ∨ (r = -1 ∧ m = 51)) → wz W 313 29 [.ref 353, .int (jI a), .int (jI (bsP u (51 - m)).1), .int (jI r), .int (jI (-30 + (51 - m : Nat))), x5, x6, x7] [] (jm (jrow J 353 (sset (J 353) 0 0))) Q = Q (oI (bsP u 51).1) (jm (jrow J 353 (sset (J 353) 0 0))) := by
      intro m
      induction m with
      | zero =>
        intro _ r x5 x6 x7 Q _
        rw [sg_313_29, if_pos (by decide)]
      | succ m ih =>
        intro hm r x5 x6 x7 Q hr
        have hb := hbs (51 - (m + 1))
        have hut := hu (-30 + (51 - (m + 1) : Nat))
        have e9 : 51 - m = (51 - (m + 1)) + 1 := by omega
        have e8 : (-30 : Int) + (51 - (m + 1) : Nat) + 1 = -30 + (51 - m : Nat) := by omega
        rw [sg_313_29, if_neg (by rw [jI_lt (by omega) (by omega) (by omega) (by omega)]; omega)]
        have h0 := hin (-30 + (51 - (m + 1) : Nat)) (by omega) (by omega) (Q (oI (bsP u 51).1) (jm (jrow J 353 (sset (J 353) 0 0)))) (jI (bsP u (51 - (m + 1))).1) (jI r) Q (fun y6 y7 => ?_) (nC (J 355) a) (Nat.le_refl _) x7
        · rw [Nat.sub_self] at h0
          exact h0
        · rw [hend (-30 + (51 - (m + 1) : Nat)) _ _ _ y6 y7 Q]
          by_cases f : (u (-30 + (51 - (m + 1) : Nat)) : Int) ≤ r
          · have f' : (u (-30 + (51 - (m + 1) : Nat)) : Int) ≤ (bsP u (51 - (m + 1))).2 := by omega
            have e : bsP u (51 - m) = bsP u (51 - (m + 1)) := by rw [e9]; show (if _ then _ else _) = _; rw [if_pos f']
            rw [if_pos (by rw [jI_le (by omega) (by omega) (by omega) (by omega)]; exact f), jmax_j (by omega) (by omega) (by omega) (by omega), jI_add, e8, ← e]
            exact ih (by omega) _ _ _ _ Q (Or.inl (by rw [e]; omega))
          · rw [if_neg (by rw [jI_le (by omega) (by omega) (by omega) (by omega)]; exact f), jmax_j (by omega) (by omega) (by omega) (by omega), jI_add, e8]
            have hp : (bsP u (51 - m)).1 = -30 + (51 - (m + 1) : Nat) ∧ (bsP u (51 - m)).2 = (u (-30 + (51 - (m + 1) : Nat)) : Int) := by
              by_cases f' : (u (-30 + (51 - (m + 1) : Nat)) : Int) ≤ (bsP u (51 - (m + 1))).2
              · have e : bsP u (51 - m) = bsP u (51 - (m + 1)) := by rw [e9]; show (if _ then _ else _) = _; rw [if_pos f']
                rcases hr with hr | ⟨hr, hm9⟩
                · omega
                · obtain rfl : m = 50 := by omega
                  rw [e]
                  have e1 : (bsP u (51 - (50 + 1))).1 = -30 := rfl
                  have e2 : (bsP u (51 - (50 + 1))).2 = 0 := rfl
                  rw [e2] at f' ⊢
                  rw [e1]
                  exact ⟨by decide, by omega⟩
              · have e : bsP u (51 - m) = ((-30 : Int) + (51 - (m + 1) : Nat), (u (-30 + (51 - (m + 1) : Nat)) : Int)) := by rw [e9]; show (if _ then _ else _) = _; rw [if_neg f']
                rw [e]
                exact ⟨rfl, rfl⟩
            rw [← hp.1]
            exact ih (by omega) _ _ _ _ Q (Or.inl (by rw [hp.2, hp.1]; omega))
    refine ⟨oI (bsP u 51).1, J, (bsP u 51).1, jrow J 353 (sset (J 353) 0 0), fun Q => ?_, fun Q => ?_, kp_thr, mt_ok⟩
    · rw [sg_151_0, sp_164v v.1 (by omega) (by omega)]
      simp only [zk_l, zk_r, Option.toList_some, Option.toList_none, List.cons_append, List.nil_append, zrokB, zrokB0, zrokB1, zrokJ0, zrokJ1, and_true, true_and, and_self, if_true, if_false, b2_0, b2_1, b2_not, ite_self]
      rw [sg_151_5]
      exact hcl 51 (Nat.le_refl _) _ Q
    · rw [sg_313_0]
      simp (disch := first | assumption | omega) only [jI_cl, jm_n, jz_n, i_lit, i_c0, i_c1, Int.toNat_of_nonneg, Int.toNat_natCast, jrow_same, jrow_ne, jrow_jrow, sset_eq, sset_ne]
      rw [sp_215v v.1 (by rw [e355]; exact v.2) (by rw [e355]; exact b8)]
      simp only [zk_l, zk_r, Option.toList_some, Option.toList_none, List.cons_append, List.nil_append, zrokB, zrokB0, zrokB1, zrokJ0, zrokJ1, and_true, true_and, and_self, if_true, if_false, b2_0, b2_1, b2_not, ite_self]
      rw [sg_313_11, sp_178t]
      simp only [zk_l, zk_r, Option.toList_some, Option.toList_none, List.cons_append, List.nil_append, zrokB, zrokB0, zrokB1, zrokJ0, zrokJ1, and_true, true_and, and_self, if_true, if_false, b2_0, b2_1, b2_not, ite_self]
      rw [sg_313_15, if_pos (by decide)]
      exact hrf 51 (Nat.le_refl _) (-1) _ _ _ Q (Or.inr ⟨rfl, rfl⟩)
  · refine ⟨oE 0, J, 0, jrow J 353 (sset (J 353) 0 1), fun Q => ?_, fun Q => ?_, kp_thr, mt_er 0 0 rfl rfl⟩
    · rw [sg_151_0, sp_164n a1 a2 (by rw [hu3]; exact v) (by omega) (by omega)]
      simp only [zk_l, zk_r, Option.toList_some, Option.toList_none, List.cons_append, List.nil_append, zrokB, zrokB0, zrokB1, zrokJ0, zrokJ1, and_true, true_and, and_self, if_true, if_false, b2_0, b2_1, b2_not, ite_self]
    · rw [sg_313_0]
      simp (disch := first | assumption | omega) only [jI_cl, jm_n, jz_n, i_lit, i_c0, i_c1, Int.toNat_of_nonneg, Int.toNat_natCast, jrow_same, jrow_ne, jrow_jrow, sset_eq, sset_ne]
      rw [sp_215n a1 a2 (by rw [e355]; exact v) (by rw [e355]; exact b7) (by rw [e355]; exact b8)]
      simp only [zk_l, zk_r, Option.toList_some, Option.toList_none, List.cons_append, List.nil_append, zrokB, zrokB0, zrokB1, zrokJ0, zrokJ1, and_true, true_and, and_self, if_true, if_false, b2_0, b2_1, b2_not, ite_self]
      rw [sg_313_11, sp_178f]
      simp only [sset_ss, zk_l, zk_r, Option.toList_some, Option.toList_none, List.cons_append, List.nil_append, zrokB, zrokB0, zrokB1, zrokJ0, zrokJ1, and_true, true_and, and_self, if_true, if_false, b2_0, b2_1, b2_not, ite_self, jI_cl, jm_n, jz_n, i_lit, i_c0, i_c1, Int.toNat_of_nonneg, Int.toNat_natCast, jrow_same, jrow_ne, jrow_jrow, sset_eq, sset_ne]
      rw [sg_313_15, if_neg (by decide)]

end
