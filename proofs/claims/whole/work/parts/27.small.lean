/-! ===== small methods of the class ===== -/
section
variable {W : zW} {y pc : Nat} {L S : List Value} {I : zI} {Q : zO → zI → Prop} {l a b c w : Nat}
theorem wz_alR {r n kd : Nat} {cs : List Nat} (hf : zfet (zT y) pc = some (.arraylength, l, a, b, c, w)) (h : Hc[r]? = some (kd, n, cs)) (h0 : 10 ≤ kd) (h1 : kd < 100) : wz W y pc L (.ref r :: S) I Q = wz W y (pc + 1) L (.int (Int32.ofNat n) :: S) I Q := by
  have hr := Hc_lt h
  refine wz_st hf ?_
  simp only [zstep, zalen]
  rw [if_neg (show ¬ r = 1000000 by omega), if_neg (show ¬ (3000000 ≤ r ∧ r < 3000000 + zStrN) by omega)]
  simp only [h]
  rw [if_pos (Or.inr ⟨h0, h1⟩)]
theorem wz_aa {r n kd q : Nat} {x : Int32} {cs : List Nat} (hf : zfet (zT y) pc = some (.aaload, l, a, b, c, w)) (h : Hc[r]? = some (kd, n, cs)) (h0 : 10 ≤ kd) (h1 : kd < 100) (hv : zvin x n = true) (hq : cs[x.toNatClampNeg]? = some (q + 2)) : wz W y pc L (.int x :: .ref r :: S) I Q = wz W y (pc + 1) L (.ref q :: S) I Q := by
  refine wz_st hf ?_
  simp only [zstep, zaald, h]
  rw [if_pos ⟨h0, h1⟩, if_pos hv]
  simp only [hq]
  rfl
end
section
variable {W : zW} {J : zJ} {Q : zO → zI → Prop}
theorem zGa_at {s : Nat} : ∀ i, i < 6 → [s + 15, s + 16, s + 17, s + 18, s + 19, s + 20][i]? = some (s + 13 + i + 2)
  | 0, _ => rfl
  | 1, _ => rfl
  | 2, _ => rfl
  | 3, _ => rfl
  | 4, _ => rfl
  | 5, _ => rfl
  | n + 6, h => absurd h (by omega)
theorem zCa_at {s : Nat} : ∀ i, i < 3 → [s + 21, s + 22, s + 23][i]? = some (s + 19 + i + 2)
  | 0, _ => rfl
  | 1, _ => rfl
  | 2, _ => rfl
  | n + 3, h => absurd h (by omega)
/-- goodsAt, chamberAt -/
theorem sp_52 {s : Nat} {i : Int} (hs : zStp s) (h0 : 0 ≤ i) (h1 : i < 6) : wz W 52 0 [.ref s, .int (jI i), .float 0] [] (jm J) Q = Q (oR (s + 13 + i.toNat)) (jm J) := by
  refine (wz_go 1 (pc' := 1) (L' := [.ref s, .int (jI i), .float 0]) (S' := [.int (jI i)]) (I' := jm J) rfl).trans ?_
  refine ((wz_i1 (cd := .lt) rfl).trans (if_neg (by rw [jI_lt0 (by omega) (by omega)]; omega : ¬ jI i < 0))).trans ?_
  refine (wz_go 2 (pc' := 6) (L' := [.ref s, .int (jI i), .float 0]) (S' := [.ref s, .int (jI i)]) (I' := jm J) rfl).trans ?_
  refine (wz_gf (v := .ref (s + 1)) rfl (zget_R (ci := 6) (by decide) (zStp_sh hs) rfl)).trans ?_
  refine (wz_alR rfl (zStp_ga hs) (by decide) (by decide)).trans ?_
  refine ((wz_i2 (cd := .ge) rfl).trans (if_neg (by rw [jI_nat, jI_le (by omega) (by omega) (by omega) (by omega)]; omega : ¬ Int32.ofNat 6 ≤ jI i))).trans ?_
  refine (wz_go 1 (pc' := 14) (L' := [.ref s, .int (jI i), .float 0]) (S' := [.ref s]) (I' := jm J) rfl).trans ?_
  refine (wz_gf (v := .ref (s + 1)) rfl (zget_R (ci := 6) (by decide) (zStp_sh hs) rfl)).trans ?_
  refine (wz_go 1 (pc' := 18) (L' := [.ref s, .int (jI i), .float 0]) (S' := [.int (jI i), .ref (s + 1)]) (I' := jm J) rfl).trans ?_
  refine (wz_aa (q := s + 13 + i.toNat) rfl (zStp_ga hs) (by decide) (by decide) (jI_in h0 (by omega) (by decide)) (by rw [jI_cl (by omega) (by omega)]; exact zGa_at _ (by omega))).trans ?_
  refine (wz_go 5 (pc' := 36) (L' := [.ref s, .int (jI i), .ref (s + 13 + i.toNat)]) (S' := [.ref (s + 13 + i.toNat)]) (I' := jm J) rfl).trans ?_
  exact wz_aret rfl rfl
theorem sp_53 {s : Nat} {i : Int} (hs : zStp s) (h0 : 0 ≤ i) (h1 : i < 3) : wz W 53 0 [.ref s, .int (jI i), .float 0] [] (jm J) Q = Q (oR (s + 19 + i.toNat)) (jm J) := by
  refine (wz_go 1 (pc' := 1) (L' := [.ref s, .int (jI i), .float 0]) (S' := [.int (jI i)]) (I' := jm J) rfl).trans ?_
  refine ((wz_i1 (cd := .lt) rfl).trans (if_neg (by rw [jI_lt0 (by omega) (by omega)]; omega : ¬ jI i < 0))).trans ?_
  refine (wz_go 2 (pc' := 6) (L' := [.ref s, .int (jI i), .float 0]) (S' := [.ref s, .int (jI i)]) (I' := jm J) rfl).trans ?_
  refine (wz_gf (v := .ref (s + 3)) rfl (zget_R (ci := 6) (by decide) (zStp_sh hs) rfl)).trans ?_
  refine (wz_alR rfl (zStp_ca hs) (by decide) (by decide)).trans ?_
  refine ((wz_i2 (cd := .ge) rfl).trans (if_neg (by rw [jI_nat, jI_le (by omega) (by omega) (by omega) (by omega)]; omega : ¬ Int32.ofNat 3 ≤ jI i))).trans ?_
  refine (wz_go 1 (pc' := 14) (L' := [.ref s, .int (jI i), .float 0]) (S' := [.ref s]) (I' := jm J) rfl).trans ?_
  refine (wz_gf (v := .ref (s + 3)) rfl (zget_R (ci := 6) (by decide) (zStp_sh hs) rfl)).trans ?_
  refine (wz_go 1 (pc' := 18) (L' := [.ref s, .int (jI i), .float 0]) (S' := [.int (jI i), .ref (s + 3)]) (I' := jm J) rfl).trans ?_
  refine (wz_aa (q := s + 19 + i.toNat) rfl (zStp_ca hs) (by decide) (by decide) (jI_in h0 (by omega) (by decide)) (by rw [jI_cl (by omega) (by omega)]; exact zCa_at _ (by omega))).trans ?_
  refine (wz_go 5 (pc' := 36) (L' := [.ref s, .int (jI i), .ref (s + 19 + i.toNat)]) (S' := [.ref (s + 19 + i.toNat)]) (I' := jm J) rfl).trans ?_
  exact wz_aret rfl rfl
/-- History.at -/
theorem zSa_at : ∀ i, i < 8 → [134, 161, 188, 215, 242, 269, 296, 323][i]? = some (132 + 27 * i + 2) := by decide
theorem zStk_h {i : Nat} (h : i < 8) : zStk (132 + 27 * i) := (by unfold zStk; decide : ∀ i, i < 8 → zStk (132 + 27 * i)) i h
theorem sp_17 {k : Int} (h0 : 0 ≤ J 130 1 + k) (h1 : J 130 1 + k < 1000) : wz W 17 0 [.ref 130, .int (jI k), .float 0] [] (jm J) Q = Q (oR (132 + 27 * ((J 130 1 + k) % 8).toNat)) (jm J) := by
  have hm : jI (J 130 1) + jI k - (jI (J 130 1) + jI k) / jI 8 * jI 8 = jI ((J 130 1 + k) % 8) := by
    rw [jI_add, jI_dv h0 (by omega) (by decide) (by decide), jI_mul, jI_sub]
    congr 1
    omega
  have hb : 0 ≤ (J 130 1 + k) % 8 ∧ (J 130 1 + k) % 8 < 8 := by omega
  generalize hi : (J 130 1 + k) % 8 = i at *
  refine (wz_go 1 (pc' := 1) (L' := [.ref 130, .int (jI k), .float 0]) (S' := [.ref 130]) (I' := jm J) rfl).trans ?_
  refine (wz_gf (v := .int (jI (J 130 1))) rfl (zget_I (ci := 2) (by decide) h_130 rfl)).trans ?_
  refine (wz_go 3 (pc' := 8) (L' := [.ref 130, .int (jI k), .float 0]) (S' := [.int (jI 8), .int (jI (J 130 1) + jI k)]) (I' := jm J) rfl).trans ?_
  refine (wz_remc rfl (by decide)).trans ?_
  rw [hm]
  refine (wz_go 2 (pc' := 11) (L' := [.ref 130, .int (jI k), .int (jI i)]) (S' := [.int (jI i)]) (I' := jm J) rfl).trans ?_
  refine ((wz_i1 (cd := .lt) rfl).trans (if_neg (by rw [jI_lt0 (by omega) (by omega)]; omega : ¬ jI i < 0))).trans ?_
  refine (wz_go 2 (pc' := 16) (L' := [.ref 130, .int (jI k), .int (jI i)]) (S' := [.ref 130, .int (jI i)]) (I' := jm J) rfl).trans ?_
  refine (wz_gf (v := .ref 131) rfl (zget_R (ci := 2) (by decide) h_130 rfl)).trans ?_
  refine (wz_alR rfl h_131 (by decide) (by decide)).trans ?_
  refine ((wz_i2 (cd := .ge) rfl).trans (if_neg (by rw [jI_nat, jI_le (by omega) (by omega) (by omega) (by omega)]; omega : ¬ Int32.ofNat 8 ≤ jI i))).trans ?_
  refine (wz_go 1 (pc' := 24) (L' := [.ref 130, .int (jI k), .int (jI i)]) (S' := [.ref 130]) (I' := jm J) rfl).trans ?_
  refine (wz_gf (v := .ref 131) rfl (zget_R (ci := 2) (by decide) h_130 rfl)).trans ?_
  refine (wz_go 1 (pc' := 28) (L' := [.ref 130, .int (jI k), .int (jI i)]) (S' := [.int (jI i), .ref 131]) (I' := jm J) rfl).trans ?_
  refine (wz_aa (q := 132 + 27 * i.toNat) rfl h_131 (by decide) (by decide) (jI_in hb.1 (by omega) (by decide)) (by rw [jI_cl (by omega) (by omega)]; exact zSa_at _ (by omega))).trans ?_
  refine (wz_go 1 (pc' := 33) (L' := [.ref 130, .int (jI k), .int (jI i)]) (S' := [.ref (132 + 27 * i.toNat)]) (I' := jm J) rfl).trans ?_
  exact wz_aret rfl rfl
/-! goods -/
theorem sp_9 {g q : Nat} (hg : zGds g) (hq : zGds q) (a0 : -10 ≤ J g 0) (a1 : J g 0 ≤ 10) (b0 : -10 ≤ J q 0) (b1 : J q 0 ≤ 10) (c0 : -10 ≤ J g 5) (c1 : J g 5 ≤ 10) (d0 : -10 ≤ J q 6) (d1 : J q 6 ≤ 10) :
    wz W 9 0 [.ref g, .ref q] [] (jm J) Q = Q (oB (decide (J g 0 ≠ J q 0) && decide (J q 6 < J g 5))) (jm J) := by
  rw [sg_9_0 W _ Q g q hg hq]
  simp (disch := first | assumption | omega) only [sg_9_26, sg_9_27, zk_l, zk_r, Option.toList_some, Option.toList_none, List.cons_append, List.nil_append, zrokB, zrokB0, zrokB1, zrokJ0, zrokJ1, and_true, true_and, and_self, if_true, if_false, b2_0, b2_1, b2_not, ite_self, Int.add_zero, jI_nat, jI_add, jI_sub, jI_mul, jI_neg, jI_lt, jI_le, jI_eq, jI_lt0, jI_0lt, jI_le0, jI_0le, jI_eq0, jI_in, jI_dv, i_mod, jI_cl, jm_n, jz_n, i_lit, i_c0, i_c1, Int.toNat_of_nonneg, Int.toNat_natCast, jrow_same, jrow_ne, jrow_jrow, sset_eq, sset_ne]
  by_cases h : J g 0 = J q 0
  · rw [if_pos h]; simp [h]; rfl
  · rw [if_neg h]
    by_cases h2 : J g 5 ≤ J q 6
    · rw [if_pos h2, decide_eq_false (show ¬ J q 6 < J g 5 by omega), Bool.and_false]; rfl
    · rw [if_neg h2, decide_eq_true (show J q 6 < J g 5 by omega), decide_eq_true h]; rfl
theorem sp_10 {g q : Nat} (hg : zGds g) (hq : zGds q) (a0 : -10 ≤ J g 0) (a1 : J g 0 ≤ 10) (b0 : -10 ≤ J q 0) (b1 : J q 0 ≤ 10) (c0 : -10 ≤ J g 5) (c1 : J g 5 ≤ 10) (d0 : -10 ≤ J q 6) (d1 : J q 6 ≤ 10) (e0 : -10 ≤ J q 5) (e1 : J q 5 ≤ 10) (f0 : -10 ≤ J g 6) (f1 : J g 6 ≤ 10) :
    wz W 10 0 [.ref g, .ref q] [] (jm J) Q = Q (oB ((decide (J g 0 ≠ J q 0) && decide (J q 6 < J g 5)) || (decide (J q 0 ≠ J g 0) && decide (J g 6 < J q 5)))) (jm J) := by
  rw [sg_10_0 W _ Q g q hg hq, sp_9 hg hq a0 a1 b0 b1 c0 c1 d0 d1]
  simp only [zk_l, zk_r, Option.toList_some, Option.toList_none, List.cons_append, List.nil_append, zrokB, zrokB0, zrokB1, zrokJ0, zrokJ1, and_true, true_and, and_self, if_true, if_false, b2_0, b2_1, b2_not, ite_self]
  rw [sg_10_5 W _ Q g q _ hg hq, sp_9 hq hg b0 b1 a0 a1 e0 e1 f0 f1]
  simp (disch := first | assumption | omega) only [sg_10_13, sg_10_16, sg_10_21, zk_l, zk_r, Option.toList_some, Option.toList_none, List.cons_append, List.nil_append, zrokB, zrokB0, zrokB1, zrokJ0, zrokJ1, and_true, true_and, and_self, if_true, if_false, b2_0, b2_1, b2_not, ite_self]
  cases (decide (J g 0 ≠ J q 0) && decide (J q 6 < J g 5)) <;> cases (decide (J q 0 ≠ J g 0) && decide (J g 6 < J q 5)) <;> rfl
theorem sp_11 {g : Nat} {t : Int} (hg : zGds g) (t0 : -1000 ≤ t) (t1 : t ≤ 1000) (a0 : -1000 ≤ J g 2) (a1 : J g 2 ≤ 1000) (b0 : -1000 ≤ J g 3) (b1 : J g 3 ≤ 1000) :
    wz W 11 0 [.ref g, .int (jI t)] [] (jm J) Q = Q (oB (decide (J g 2 ≤ t) && decide (t ≤ J g 3))) (jm J) := by
  rw [sg_11_0 W _ Q g _ hg]
  simp (disch := first | assumption | omega) only [sg_11_20, sg_11_21, zk_l, zk_r, Option.toList_some, Option.toList_none, List.cons_append, List.nil_append, zrokB, zrokB0, zrokB1, zrokJ0, zrokJ1, and_true, true_and, and_self, if_true, if_false, b2_0, b2_1, b2_not, ite_self, Int.add_zero, jI_nat, jI_add, jI_sub, jI_mul, jI_neg, jI_lt, jI_le, jI_eq, jI_lt0, jI_0lt, jI_le0, jI_0le, jI_eq0, jI_in, jI_dv, i_mod, jI_cl, jm_n, jz_n, i_lit, i_c0, i_c1, Int.toNat_of_nonneg, Int.toNat_natCast, jrow_same, jrow_ne, jrow_jrow, sset_eq, sset_ne]
  by_cases h : t < J g 2
  · rw [if_pos h, decide_eq_false (show ¬ J g 2 ≤ t by omega)]; rfl
  · rw [if_neg h, decide_eq_true (show J g 2 ≤ t by omega)]
    by_cases h2 : J g 3 < t
    · rw [if_pos h2, decide_eq_false (show ¬ t ≤ J g 3 by omega)]; rfl
    · rw [if_neg h2, decide_eq_true (show t ≤ J g 3 by omega)]; rfl
theorem sp_12 {g : Nat} {t : Int} (hg : zGds g) (t0 : -1000000 ≤ t) (t1 : t ≤ 1000000) (a0 : -1000 ≤ J g 2) (a1 : J g 2 ≤ J g 3) (b1 : J g 3 ≤ 1000) :
    wz W 12 0 [.ref g, .int (jI t)] [] (jm J) Q = Q (oI (max 0 (t - 10 * J g 3) + max 0 (10 * J g 2 - t))) (jm J) := by
  rw [sg_12_0 W _ Q g _ hg]
  simp (disch := first | assumption | omega) only [sg_12_45, zk_l, zk_r, Option.toList_some, Option.toList_none, List.cons_append, List.nil_append, zrokB, zrokB0, zrokB1, zrokJ0, zrokJ1, and_true, true_and, and_self, if_true, if_false, b2_0, b2_1, b2_not, ite_self, Int.add_zero, jI_nat, jI_add, jI_sub, jI_mul, jI_neg, jI_lt, jI_le, jI_eq, jI_lt0, jI_0lt, jI_le0, jI_0le, jI_eq0, jI_in, jI_dv, i_mod, jI_cl, jm_n, jz_n, i_lit, i_c0, i_c1, Int.toNat_of_nonneg, Int.toNat_natCast, jrow_same, jrow_ne, jrow_jrow, sset_eq, sset_ne]
  by_cases h : t ≤ 10 * J g 3
  · rw [if_pos h]
    by_cases h2 : 10 * J g 2 ≤ t
    · rw [if_pos h2, show max 0 (t - 10 * J g 3) + max 0 (10 * J g 2 - t) = 0 by omega]
    · rw [if_neg h2, show max 0 (t - 10 * J g 3) + max 0 (10 * J g 2 - t) = 10 * J g 2 - t by omega]
  · rw [if_neg h, show max 0 (t - 10 * J g 3) + max 0 (10 * J g 2 - t) = t - 10 * J g 3 by omega]
/-! bits -/
theorem sp_167 {x : Int32} {k : Int} (h0 : 0 ≤ k) (h1 : k < 32) : wz W 167 0 [.int x, .int (jI k)] [] (jm J) Q = Q (oB (bt x k.toNat)) (jm J) := by
  rw [sg_167_0]
  have e : jushr x (jI k) &&& jI 1 = b2 (bt x k.toNat) := jb_u h0 h1
  rw [e]
  cases bt x k.toNat
  · simp (disch := first | assumption | omega) only [sg_167_13, zk_l, zk_r, Option.toList_some, Option.toList_none, List.cons_append, List.nil_append, zrokB, zrokB0, zrokB1, zrokJ0, zrokJ1, and_true, true_and, and_self, if_true, if_false, b2_0, b2_1, b2_not, ite_self]; rfl
  · simp (disch := first | assumption | omega) only [sg_167_13, zk_l, zk_r, Option.toList_some, Option.toList_none, List.cons_append, List.nil_append, zrokB, zrokB0, zrokB1, zrokJ0, zrokJ1, and_true, true_and, and_self, if_true, if_false, b2_0, b2_1, b2_not, ite_self]; rfl
theorem sp_177 {x : Int32} {k : Int} (h0 : 0 ≤ k) (h1 : k < 32) : wz W 177 0 [.int x, .int (jI k)] [] (jm J) Q = Q (oB (bt x k.toNat)) (jm J) := by
  rw [sg_177_0]
  have e : x >>> (jI k &&& 31) &&& jI 1 = b2 (bt x k.toNat) := jb_s h0 h1
  rw [e]
  cases bt x k.toNat
  · simp (disch := first | assumption | omega) only [sg_177_14, zk_l, zk_r, Option.toList_some, Option.toList_none, List.cons_append, List.nil_append, zrokB, zrokB0, zrokB1, zrokJ0, zrokJ1, and_true, true_and, and_self, if_true, if_false, b2_0, b2_1, b2_not, ite_self]; rfl
  · simp (disch := first | assumption | omega) only [sg_177_14, zk_l, zk_r, Option.toList_some, Option.toList_none, List.cons_append, List.nil_append, zrokB, zrokB0, zrokB1, zrokJ0, zrokJ1, and_true, true_and, and_self, if_true, if_false, b2_0, b2_1, b2_not, ite_self]; rfl
end
