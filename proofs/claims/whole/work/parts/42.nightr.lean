/-! ===== the reference: nights ===== -/
theorem smK_cg {s t : Int → Int} (e : ∀ j, (36 ≤ j ∧ j < 72) ∨ (392 ≤ j ∧ j < 400) ∨ (72 ≤ j ∧ j < 352 ∧ (j - 72) % 7 = 0) → t j = s j) (hQ : ∀ i, 0 ≤ i → i < s 8 → 0 ≤ s (392 + i) ∧ s (392 + i) < 40 ∧ 0 ≤ s (72 + 7 * s (392 + i)) ∧ s (72 + 7 * s (392 + i)) < 6) (h8 : s 8 ≤ 8) {own : Int} (o0 : 0 ≤ own) (o1 : own < 6) : ∀ n : Nat, (n : Int) ≤ s 8 → smK t own n = smK s own n := by
  intro n
  induction n with
  | zero => intro _; rfl
  | succ n ih =>
    intro hn
    obtain ⟨q1, q2, q3, q4⟩ := hQ n (by omega) (by omega)
    unfold smK
    rw [ih (by omega), e (392 + (n : Int)) (by omega), e (72 + 7 * s (392 + (n : Int))) (by omega), e (36 + 6 * s (72 + 7 * s (392 + (n : Int))) + 4) (by omega), e (36 + 6 * own + 5) (by omega)]
section
variable {W : zW} {J : zJ} {Q : zO → zI → Prop} {r : Nat} {D k : Int}
theorem sp_236 (hr : zArr r 472) (hK : okK (J r)) (hD : okD D k (J r)) (hD5 : D ≤ 500) {p : Int} (p0 : 0 ≤ p) (p1 : p < J r 6) : wz W 236 0 [.ref r, .int (jI p), .float 0, .float 0] [] (jm J) Q = Q (oB (spo (J r) p)) (jm J) := by
  obtain ⟨⟨a1, a2, a3, a4, a5, a6⟩, hT, hV, hP, -⟩ := hD
  obtain ⟨b1, b2, b3, b4, b5, b6, b7, b8, b9, b10, b11, b12⟩ := hK.1
  generalize hs : J r = s at *
  obtain ⟨q1, q2, q3, q4, q5, q6, q7, q8, q9, q10, q11⟩ := hP p p0 p1
  obtain ⟨d1, d2, d3, d4, d5, -⟩ := hK.2.2.1 _ q1 q2
  have go : ∀ t : Int, 0 ≤ t → t ≤ 500 → wz W 236 29 [.ref r, .int (jI p), .int (jI (72 + 7 * p)), .float 0] [.int (jI t)] (jm J) Q = Q (oB (decide (s 1 < s (72 + 7 * p + 4)) || decide (s 2 < s (72 + 7 * p + 5)) || decide (s (36 + 6 * s (72 + 7 * p) + 3) < t - s (72 + 7 * p + 1)))) (jm J) := by
    intro t t0 t1
    rw [sg_236_29 (hp0 := hr)]
    simp (disch := first | assumption | omega) only [hs, zk_l, zk_r, Option.toList_some, Option.toList_none, List.cons_append, List.nil_append, zrokB, zrokB0, zrokB1, zrokJ0, zrokJ1, and_true, true_and, and_self, if_true, if_false, b2_0, b2_1, b2_not, ite_self, Int.add_zero, jI_nat, jI_add, jI_sub, jI_mul, jI_neg, jI_lt, jI_le, jI_eq, jI_lt0, jI_0lt, jI_le0, jI_0le, jI_eq0, jI_in, jI_dv, i_mod, jI_cl, jm_n, jz_n, i_lit, i_c0, i_c1, Int.toNat_of_nonneg, Int.toNat_natCast, jrow_same, jrow_ne, jrow_jrow, sset_eq, sset_ne]
    simp only [sg_236_77 (hp0 := hr), sg_236_82 (hp0 := hr), zk_l, zk_r, Option.toList_some, Option.toList_none, List.cons_append, List.nil_append, zrokB, zrokB0, zrokB1, zrokJ0, zrokJ1, and_true, true_and, and_self, if_true, if_false, b2_0, b2_1, b2_not, ite_self]
    by_cases f1 : s 1 < s (72 + 7 * p + 4)
    · rw [if_pos f1, decide_eq_true f1]; rfl
    · rw [if_neg f1, decide_eq_false f1]
      by_cases f2 : s 2 < s (72 + 7 * p + 5)
      · rw [if_pos f2, decide_eq_true f2]; rfl
      · rw [if_neg f2, decide_eq_false f2]
        by_cases f3 : t - s (72 + 7 * p + 1) ≤ s (36 + 6 * s (72 + 7 * p) + 3)
        · rw [if_pos f3, decide_eq_false (by omega)]; rfl
        · rw [if_neg f3, decide_eq_true (by omega)]; rfl
  rw [sg_236_0 (hp0 := hr)]
  simp (disch := first | assumption | omega) only [hs, zk_l, zk_r, Option.toList_some, Option.toList_none, List.cons_append, List.nil_append, zrokB, zrokB0, zrokB1, zrokJ0, zrokJ1, and_true, true_and, and_self, if_true, if_false, b2_0, b2_1, b2_not, ite_self, Int.add_zero, jI_nat, jI_add, jI_sub, jI_mul, jI_neg, jI_lt, jI_le, jI_eq, jI_lt0, jI_0lt, jI_le0, jI_0le, jI_eq0, jI_in, jI_dv, i_mod, jI_cl, jm_n, jz_n, i_lit, i_c0, i_c1, Int.toNat_of_nonneg, Int.toNat_natCast, jrow_same, jrow_ne, jrow_jrow, sset_eq, sset_ne]
  unfold spo
  by_cases f : s (72 + 7 * p + 2) ≤ 1
  · rw [if_pos f, go _ a1 (by omega), if_neg (by omega)]
  · obtain ⟨r1, r2⟩ := q11 (by omega)
    rw [if_neg f, go _ r1 (by omega), if_pos (by omega)]
theorem sp_264 (hr : zArr r 472) {p : Int} (p0 : 0 ≤ p) (p1 : p < 40) (h0 : 0 ≤ J r (72 + 7 * p + 2)) (h1 : J r (72 + 7 * p + 2) ≤ 3) : wz W 264 0 [.ref r, .int (jI p)] [] (jm J) Q = Q (oB (thr (J r) p)) (jm J) := by
  rw [sg_264_0 (hp0 := hr)]
  simp (disch := first | assumption | omega) only [zk_l, zk_r, Option.toList_some, Option.toList_none, List.cons_append, List.nil_append, zrokB, zrokB0, zrokB1, zrokJ0, zrokJ1, and_true, true_and, and_self, if_true, if_false, b2_0, b2_1, b2_not, ite_self, Int.add_zero, jI_nat, jI_add, jI_sub, jI_mul, jI_neg, jI_lt, jI_le, jI_eq, jI_lt0, jI_0lt, jI_le0, jI_0le, jI_eq0, jI_in, jI_dv, i_mod, jI_cl, jm_n, jz_n, i_lit, i_c0, i_c1, Int.toNat_of_nonneg, Int.toNat_natCast, jrow_same, jrow_ne, jrow_jrow, sset_eq, sset_ne]
  simp only [sg_264_20 (hp0 := hr), zk_l, zk_r, Option.toList_some, Option.toList_none, List.cons_append, List.nil_append, zrokB, zrokB0, zrokB1, zrokJ0, zrokJ1, and_true, true_and, and_self, if_true, if_false, b2_0, b2_1, b2_not, ite_self]
  unfold thr
  by_cases f : 1 < J r (72 + 7 * p + 2)
  · rw [if_pos f, decide_eq_false (by omega)]; rfl
  · rw [if_neg f, decide_eq_true (by omega)]; rfl
def cntW (s t : Int → Int) (n : Nat) : Nat := cntB (fun p => thr t p && spo t p && !(spo s p)) n
theorem sp_265 {q : Nat} {D' k' : Int} (hr : zArr r 472) (hq : zArr q 472) (hK : okK (J r)) (hD : okD D k (J r)) (hD5 : D ≤ 500) (hK' : okK (J q)) (hD' : okD D' k' (J q)) (hD5' : D' ≤ 500) (h6 : J q 6 = J r 6) : wz W 265 0 [.ref r, .ref q, .float 0, .float 0] [] (jm J) Q = Q (oI (cntW (J r) (J q) (J q 6).toNat)) (jm J) := by
  have hD9 := hD'
  obtain ⟨⟨a1, a2, a3, a4, a5, a6⟩, hT, hV, hP, -⟩ := hD'
  rw [sg_265_0 (hp0 := hr) (hp1 := hq)]
  have key := zloop (f := fun i => wz W 265 4 [.ref r, .ref q, .int (jI (cntW (J r) (J q) i)), .int (jI i)] [] (jm J) Q) (J q 6).toNat (fun i hi => by
    try simp only
    obtain ⟨q1, q2, q3, q4, q5, q6, -⟩ := hP i (by omega) (by omega)
    rw [sg_265_4 (hp0 := hr) (hp1 := hq)]
    simp (disch := first | assumption | omega) only [zk_l, zk_r, Option.toList_some, Option.toList_none, List.cons_append, List.nil_append, zrokB, zrokB0, zrokB1, zrokJ0, zrokJ1, and_true, true_and, and_self, if_true, if_false, b2_0, b2_1, b2_not, ite_self, Int.add_zero, jI_nat, jI_add, jI_sub, jI_mul, jI_neg, jI_lt, jI_le, jI_eq, jI_lt0, jI_0lt, jI_le0, jI_0le, jI_eq0, jI_in, jI_dv, i_mod, jI_cl, jm_n, jz_n, i_lit, i_c0, i_c1, Int.toNat_of_nonneg, Int.toNat_natCast, jrow_same, jrow_ne, jrow_jrow, sset_eq, sset_ne]
    rw [if_neg (by omega), sp_264 hq (by omega) (by omega) q5 q6]
    simp only [zk_l, zk_r, Option.toList_some, Option.toList_none, List.cons_append, List.nil_append, zrokB, zrokB0, zrokB1, zrokJ0, zrokJ1, and_true, true_and, and_self, if_true, if_false, b2_0, b2_1, b2_not, ite_self]
    rw [sg_265_18 (hp0 := hr) (hp1 := hq), sp_236 hq hK' hD9 hD5' (by omega) (by omega)]
    simp only [zk_l, zk_r, Option.toList_some, Option.toList_none, List.cons_append, List.nil_append, zrokB, zrokB0, zrokB1, zrokJ0, zrokJ1, and_true, true_and, and_self, if_true, if_false, b2_0, b2_1, b2_not, ite_self]
    rw [sg_265_26 (hp0 := hr) (hp1 := hq), sp_236 hr hK hD hD5 (by omega) (by omega)]
    simp only [zk_l, zk_r, Option.toList_some, Option.toList_none, List.cons_append, List.nil_append, zrokB, zrokB0, zrokB1, zrokJ0, zrokJ1, and_true, true_and, and_self, if_true, if_false, b2_0, b2_1, b2_not, ite_self]
    rw [sg_265_34 (hp0 := hr) (hp1 := hq)]
    simp only [sg_265_41 (hp0 := hr) (hp1 := hq), sg_265_42 (hp0 := hr) (hp1 := hq), zk_l, zk_r, Option.toList_some, Option.toList_none, List.cons_append, List.nil_append, zrokB, zrokB0, zrokB1, zrokJ0, zrokJ1, and_true, true_and, and_self, if_true, if_false, b2_0, b2_1, b2_not, ite_self, jI_add, Int.add_zero]
    have e : cntW (J r) (J q) (i + 1) = cntW (J r) (J q) i + (if (thr (J q) i && spo (J q) i && !(spo (J r) i)) = true then 1 else 0) := rfl
    rw [e]
    cases thr (J q) i <;> cases spo (J q) i <;> cases spo (J r) i <;> rfl)
  refine Eq.trans key ?_
  rw [sg_265_4 (hp0 := hr) (hp1 := hq)]
  simp (disch := first | assumption | omega) only [zk_l, zk_r, Option.toList_some, Option.toList_none, List.cons_append, List.nil_append, zrokB, zrokB0, zrokB1, zrokJ0, zrokJ1, and_true, true_and, and_self, if_true, if_false, b2_0, b2_1, b2_not, ite_self, Int.add_zero, jI_nat, jI_add, jI_sub, jI_mul, jI_neg, jI_lt, jI_le, jI_eq, jI_lt0, jI_0lt, jI_le0, jI_0le, jI_eq0, jI_in, jI_dv, i_mod, jI_cl, jm_n, jz_n, i_lit, i_c0, i_c1, Int.toNat_of_nonneg, Int.toNat_natCast, jrow_same, jrow_ne, jrow_jrow, sset_eq, sset_ne]
  rw [if_pos (by omega)]
theorem sp_261 (hr : zArr r 472) (hK : okK (J r)) (hT : okT k (J r)) (hk0 : 0 ≤ k) (hk : k ≤ 30000) {p : Int} (p0 : 0 ≤ p) (p1 : p < 40) (hx : J r (72 + 7 * p + 3) = -1 ∨ (0 ≤ J r (72 + 7 * p + 3) ∧ J r (72 + 7 * p + 3) / 24 < J r 4)) : wz W 261 0 [.ref r, .int (jI p), .float 0, .float 0] [] (jm J) Q = Q (oI (waF (J r) (J r (72 + 7 * p + 3)))) (jm J) := by
  obtain ⟨b1, b2, b3, b4, b5, b6, b7, b8, b9, b10, b11, b12⟩ := hK.1
  generalize hs : J r = s at *
  rw [sg_261_0 (hp0 := hr)]
  simp (disch := first | assumption | omega) only [hs, zk_l, zk_r, Option.toList_some, Option.toList_none, List.cons_append, List.nil_append, zrokB, zrokB0, zrokB1, zrokJ0, zrokJ1, and_true, true_and, and_self, if_true, if_false, b2_0, b2_1, b2_not, ite_self, Int.add_zero, jI_nat, jI_add, jI_sub, jI_mul, jI_neg, jI_lt, jI_le, jI_eq, jI_lt0, jI_0lt, jI_le0, jI_0le, jI_eq0, jI_in, jI_dv, i_mod, jI_cl, jm_n, jz_n, i_lit, i_c0, i_c1, Int.toNat_of_nonneg, Int.toNat_natCast, jrow_same, jrow_ne, jrow_jrow, sset_eq, sset_ne]
  unfold waF
  rcases hx with hx | ⟨x0, x1⟩
  · rw [if_pos hx, if_pos hx, sg_261_51 (hp0 := hr)]
  · rw [if_neg (by omega), if_neg (by omega), sg_261_51 (hp0 := hr)]
theorem smK_bd2 {s : Int → Int} (hG : okG s) (hq : ∀ i, 0 ≤ i → i < s 8 → 0 ≤ s (392 + i) ∧ s (392 + i) < 40 ∧ 0 ≤ s (72 + 7 * s (392 + i)) ∧ s (72 + 7 * s (392 + i)) < s 5) {own : Int} (o0 : 0 ≤ own) (o1 : own < s 5) : ∀ n : Nat, (n : Int) ≤ s 8 → 0 ≤ smK s own n ∧ smK s own n ≤ 9 := by
  intro n
  induction n with
  | zero => intro _; show (0 : Int) ≤ 0 ∧ (0 : Int) ≤ 9; omega
  | succ n ih =>
    intro hn
    have h1 := ih (by omega)
    obtain ⟨q1, q2, p1, p2⟩ := hq n (by omega) (by omega)
    obtain ⟨-, -, -, -, -, g6, g7, g8, g9, -⟩ := hG _ p1 p2
    obtain ⟨-, -, -, -, -, e6, e7, e8, e9, -⟩ := hG _ o0 o1
    unfold smK
    split <;> omega
set_option maxHeartbeats 1000000 in
theorem sp_262 (hr : zArr r 472) (hG : okG (J r)) (h5 : J r 5 ≤ 6) (hq : ∀ i, 0 ≤ i → i < J r 8 → 0 ≤ J r (392 + i) ∧ J r (392 + i) < 40 ∧ 0 ≤ J r (72 + 7 * J r (392 + i)) ∧ J r (72 + 7 * J r (392 + i)) < J r 5) (h8 : 0 ≤ J r 8) (h8' : J r 8 ≤ 8) {p : Int} (p0 : 0 ≤ p) (p1 : p < 40) (g0 : 0 ≤ J r (72 + 7 * p)) (g1 : J r (72 + 7 * p) < J r 5) : wz W 262 0 [.ref r, .int (jI p), .float 0, .float 0, .float 0, .float 0, .float 0] [] (jm J) Q = Q (oI (smF (J r) (J r (72 + 7 * p)))) (jm J) := by
  have hsm := smK_bd2 hG hq g0 g1
  obtain ⟨-, -, -, -, -, e6, e7, e9, e10, -⟩ := hG _ g0 g1
  generalize hs : J r = s at *
  rw [sg_262_0 (hp0 := hr)]
  simp (disch := first | assumption | omega) only [hs, zk_l, zk_r, Option.toList_some, Option.toList_none, List.cons_append, List.nil_append, zrokB, zrokB0, zrokB1, zrokJ0, zrokJ1, and_true, true_and, and_self, if_true, if_false, b2_0, b2_1, b2_not, ite_self, Int.add_zero, jI_nat, jI_add, jI_sub, jI_mul, jI_neg, jI_lt, jI_le, jI_eq, jI_lt0, jI_0lt, jI_le0, jI_0le, jI_eq0, jI_in, jI_dv, i_mod, jI_cl, jm_n, jz_n, i_lit, i_c0, i_c1, Int.toNat_of_nonneg, Int.toNat_natCast, jrow_same, jrow_ne, jrow_jrow, sset_eq, sset_ne]
  generalize s (72 + 7 * p) = own at *
  obtain ⟨v', key⟩ := zloopJ (f := fun i (_ : Unit) (v : Value × Value) => wz W 262 17 [.ref r, .int (jI p), .int (jI own), .int (jI (smK s own i)), .int (jI i), v.1, v.2] [] (jm J) Q) (fun _ u => u) () (s 8).toNat (.float 0, .float 0) (fun i v hi => by
    obtain ⟨q1, q2, o0, o1⟩ := hq i (by omega) (by omega)
    obtain ⟨-, -, -, -, -, f6, f7, f8, f9, -⟩ := hG _ o0 o1
    have hb := hsm i (by omega)
    refine ⟨(.int (jI (s (72 + 7 * s (392 + (i : Int))))), .int (jI (s (36 + 6 * s (72 + 7 * s (392 + (i : Int))) + 4) - s (36 + 6 * own + 5)))), ?_⟩
    try simp only
    rw [sg_262_17 (hp0 := hr)]
    simp (disch := first | assumption | omega) only [hs, zk_l, zk_r, Option.toList_some, Option.toList_none, List.cons_append, List.nil_append, zrokB, zrokB0, zrokB1, zrokJ0, zrokJ1, and_true, true_and, and_self, if_true, if_false, b2_0, b2_1, b2_not, ite_self, Int.add_zero, jI_nat, jI_add, jI_sub, jI_mul, jI_neg, jI_lt, jI_le, jI_eq, jI_lt0, jI_0lt, jI_le0, jI_0le, jI_eq0, jI_in, jI_dv, i_mod, jI_cl, jm_n, jz_n, i_lit, i_c0, i_c1, Int.toNat_of_nonneg, Int.toNat_natCast, jrow_same, jrow_ne, jrow_jrow, sset_eq, sset_ne]
    rw [if_neg (by omega)]
    simp only [sg_262_89 (hp0 := hr), sg_262_90 (hp0 := hr), jI_add]
    have e : smK s own (i + 1) = if s (72 + 7 * s (392 + (i : Int))) ≠ own ∧ smK s own i < s (36 + 6 * s (72 + 7 * s (392 + (i : Int))) + 4) - s (36 + 6 * own + 5) then s (36 + 6 * s (72 + 7 * s (392 + (i : Int))) + 4) - s (36 + 6 * own + 5) else smK s own i := rfl
    rw [e]
    by_cases c1 : s (72 + 7 * s (392 + (i : Int))) = own
    · rw [if_pos c1, if_neg (fun h => h.1 c1)]; rfl
    · rw [if_neg c1]
      by_cases c2 : s (36 + 6 * s (72 + 7 * s (392 + (i : Int))) + 4) - s (36 + 6 * own + 5) ≤ smK s own i
      · rw [if_pos c2, if_neg (by omega)]; rfl
      · rw [if_neg c2, if_pos ⟨c1, by omega⟩]; rfl)
  refine Eq.trans key ?_
  try simp only
  rw [sg_262_17 (hp0 := hr)]
  simp (disch := first | assumption | omega) only [hs, zk_l, zk_r, Option.toList_some, Option.toList_none, List.cons_append, List.nil_append, zrokB, zrokB0, zrokB1, zrokJ0, zrokJ1, and_true, true_and, and_self, if_true, if_false, b2_0, b2_1, b2_not, ite_self, Int.add_zero, jI_nat, jI_add, jI_sub, jI_mul, jI_neg, jI_lt, jI_le, jI_eq, jI_lt0, jI_0lt, jI_le0, jI_0le, jI_eq0, jI_in, jI_dv, i_mod, jI_cl, jm_n, jz_n, i_lit, i_c0, i_c1, Int.toNat_of_nonneg, Int.toNat_natCast, jrow_same, jrow_ne, jrow_jrow, sset_eq, sset_ne]
  rw [if_pos (by omega)]
  rfl
set_option maxHeartbeats 2000000 in
theorem sp_263 (hr : zArr r 472) (hK : okK (J r)) (hD : okD D k (J r)) (hk0 : 0 ≤ k) (hk : k ≤ 21500) (hD5 : D ≤ 500) : wz W 263 0 [.ref r, .float 0, .float 0, .float 0, .float 0] [] (jm J) Q = Q oV (jm (jrow J r (fNight (J r)))) := by
  obtain ⟨b1, b2, b3, b4, b5, b6, b7, b8, b9, b10, b11, b12⟩ := hK.1
  obtain ⟨hsa, hD1⟩ := niC_ok hK hD hk0
  have hK1 := okK_same hK hsa
  have hT := hD.2.1
  generalize hs : J r = s at *
  have e4 : niC s (s 4) 4 = s 4 := niC_ne (by omega)
  have e6 : niC s (s 4) 6 = s 6 := niC_ne (by omega)
  have e0 : niC s (s 4) 0 = s 0 := niC_ne (by omega)
  rw [sg_263_0 (hp0 := hr)]
  -- the chambers
  have key1 := zloop (f := fun c => wz W 263 3 [.ref r, .int (jI (12 + 8 * (c : Nat))), .float 0, .float 0, .float 0] [] (jm (jrow J r (niC s (c : Nat)))) Q) (s 4).toNat (fun c hc => by
    try simp only
    have n4 : niC s (c : Int) 4 = s 4 := niC_ne (by omega)
    have nw : niC s (c : Int) (12 + 8 * (c : Int) + 4) = s (12 + 8 * (c : Int) + 4) := niC_ne (by omega)
    have no : niC s (c : Int) (12 + 8 * (c : Int) + 5) = s (12 + 8 * (c : Int) + 5) := niC_ne (by omega)
    have ht := hT c (by omega) (by omega)
    rw [sg_263_3 (hp0 := hr)]
    simp (disch := first | assumption | omega) only [n4, nw, no, zk_l, zk_r, Option.toList_some, Option.toList_none, List.cons_append, List.nil_append, zrokB, zrokB0, zrokB1, zrokJ0, zrokJ1, and_true, true_and, and_self, if_true, if_false, b2_0, b2_1, b2_not, ite_self, Int.add_zero, jI_nat, jI_add, jI_sub, jI_mul, jI_neg, jI_lt, jI_le, jI_eq, jI_lt0, jI_0lt, jI_le0, jI_0le, jI_eq0, jI_in, jI_dv, i_mod, jI_cl, jm_n, jz_n, i_lit, i_c0, i_c1, Int.toNat_of_nonneg, Int.toNat_natCast, jrow_same, jrow_ne, jrow_jrow, sset_eq, sset_ne]
    rw [if_neg (by omega), niC_s (by omega), show 12 + 8 * (c : Int) + 8 = 12 + 8 * ((c + 1 : Nat) : Int) by omega]
    rfl)
  have z0 : jrow J r (niC s ((0 : Nat) : Int)) = J := by rw [show ((0 : Nat) : Int) = 0 from rfl, niC_0, ← hs, jrow_id]
  rw [z0, show (12 + 8 * ((0 : Nat) : Int)) = 12 from rfl, Int.toNat_of_nonneg b7] at key1
  refine Eq.trans key1 ?_
  rw [sg_263_3 (hp0 := hr)]
  simp (disch := first | assumption | omega) only [e4, zk_l, zk_r, Option.toList_some, Option.toList_none, List.cons_append, List.nil_append, zrokB, zrokB0, zrokB1, zrokJ0, zrokJ1, and_true, true_and, and_self, if_true, if_false, b2_0, b2_1, b2_not, ite_self, Int.add_zero, jI_nat, jI_add, jI_sub, jI_mul, jI_neg, jI_lt, jI_le, jI_eq, jI_lt0, jI_0lt, jI_le0, jI_0le, jI_eq0, jI_in, jI_dv, i_mod, jI_cl, jm_n, jz_n, i_lit, i_c0, i_c1, Int.toNat_of_nonneg, Int.toNat_natCast, jrow_same, jrow_ne, jrow_jrow, sset_eq, sset_ne]
  rw [if_pos (by omega)]
  -- the pallets
  generalize hu : niC s (s 4) = u at *
  obtain ⟨k1, k2, k3, k4, k5, k6, k7, k8, k9, k10, k11, k12⟩ := hK1.1
  obtain ⟨⟨a1, a2, a3, a4, a5, a6⟩, hT1, hV, hP, hW, hL, hQ, hN⟩ := hD1
  obtain ⟨v', key2⟩ := zloopJ (f := fun i (_ : Unit) (v : Value × Value × Value) => wz W 263 50 [.ref r, .int (jI i), v.1, v.2.1, v.2.2] [] (jm (jrow J r (niP u (i : Nat)))) Q) (fun _ u => u) () (u 6).toNat (.float 0, .float 0, .float 0) (fun i v hi => by
    obtain ⟨q1, q2, q3, q4, q5, q6, q7, q8, q9, q10, -⟩ := hP i (by omega) (by omega)
    have hw := okW_or hW hK1 (p := i) (by omega) (by omega)
    have hwa := waF_bd hK1 hT1 (x := u (72 + 7 * (i : Int) + 3)) (by omega) hk0 (by omega)
    have hht := htF_bd hK1 (t := waF u (u (72 + 7 * (i : Int) + 3))) q1 q2 (by omega) (by omega)
    have hgd := hK1.2.2.1 _ q1 q2
    have hne : ∀ j, j < 72 + 7 * (i : Int) + 4 ∧ ¬ (72 ≤ j ∧ ((j - 72) % 7 = 4 ∨ (j - 72) % 7 = 5)) → niP u (i : Int) j = u j := fun j hj => niP_ne (by omega)
    have hne2 : ∀ j, 72 + 7 * (i : Int) ≤ j → niP u (i : Int) j = u j := fun j hj => niP_ne (by omega)
    have n6 : niP u (i : Int) 6 = u 6 := hne 6 (by omega)
    have np0 : niP u (i : Int) (72 + 7 * (i : Int)) = u (72 + 7 * (i : Int)) := hne2 _ (by omega)
    have np2 : niP u (i : Int) (72 + 7 * (i : Int) + 2) = u (72 + 7 * (i : Int) + 2) := hne2 _ (by omega)
    have np3 : niP u (i : Int) (72 + 7 * (i : Int) + 3) = u (72 + 7 * (i : Int) + 3) := hne2 _ (by omega)
    have np4 : niP u (i : Int) (72 + 7 * (i : Int) + 4) = u (72 + 7 * (i : Int) + 4) := hne2 _ (by omega)
    have np5 : niP u (i : Int) (72 + 7 * (i : Int) + 5) = u (72 + 7 * (i : Int) + 5) := hne2 _ (by omega)
    have ng2 : niP u (i : Int) (36 + 6 * u (72 + 7 * (i : Int)) + 2) = u (36 + 6 * u (72 + 7 * (i : Int)) + 2) := hne _ (by omega)
    have ng1 : niP u (i : Int) (36 + 6 * u (72 + 7 * (i : Int)) + 1) = u (36 + 6 * u (72 + 7 * (i : Int)) + 1) := hne _ (by omega)
    have hsn : same u (niP u (i : Int)) := vre_same (fun j hj => niP_ne (by unfold vr at hj; omega)) (by omega) (by omega)
    have hKn := okK_same hK1 hsn
    have hTn : okT k (niP u (i : Int)) := okT_cg hT1 (hne 4 (by omega)) (Int.le_refl _) (fun c c0 c1 => by
      have := hT1 c c0 c1
      rw [hne (12 + 8 * c + 3) (by omega), hne (12 + 8 * c + 4) (by omega), hne (12 + 8 * c + 5) (by omega)]
      omega)
    have hwn : waF (niP u (i : Int)) (u (72 + 7 * (i : Int) + 3)) = waF u (u (72 + 7 * (i : Int) + 3)) := by
      unfold waF
      by_cases c : u (72 + 7 * (i : Int) + 3) = -1
      · rw [if_pos c, if_pos c, hne 3 (by omega)]
      · rw [if_neg c, if_neg c, hne (12 + 8 * (u (72 + 7 * (i : Int) + 3) / 24) + 3) (by omega), hne (12 + 8 * (u (72 + 7 * (i : Int) + 3) / 24) + 4) (by omega)]
    by_cases c : u (72 + 7 * (i : Int) + 2) ≤ 1
    · refine ⟨(.int (jI (72 + 7 * (i : Int))), .int (jI (36 + 6 * u (72 + 7 * (i : Int)))), .int (jI (waF u (u (72 + 7 * (i : Int) + 3))))), ?_⟩
      try simp only
      rw [sg_263_50 (hp0 := hr)]
      simp (disch := first | assumption | omega) only [n6, np0, np2, zk_l, zk_r, Option.toList_some, Option.toList_none, List.cons_append, List.nil_append, zrokB, zrokB0, zrokB1, zrokJ0, zrokJ1, and_true, true_and, and_self, if_true, if_false, b2_0, b2_1, b2_not, ite_self, Int.add_zero, jI_nat, jI_add, jI_sub, jI_mul, jI_neg, jI_lt, jI_le, jI_eq, jI_lt0, jI_0lt, jI_le0, jI_0le, jI_eq0, jI_in, jI_dv, i_mod, jI_cl, jm_n, jz_n, i_lit, i_c0, i_c1, Int.toNat_of_nonneg, Int.toNat_natCast, jrow_same, jrow_ne, jrow_jrow, sset_eq, sset_ne]
      rw [if_neg (by omega), if_neg (by omega)]
      have h261 := sp_261 (W := W) (J := jrow J r (niP u (i : Int))) (Q := zk Q (fun v1 I1 => wz W 263 92 [.ref r, .int (jI i), .int (jI (72 + 7 * (i : Int))), .int (jI (36 + 6 * u (72 + 7 * (i : Int)))), v.2.2] (v1.toList ++ []) I1 Q)) (k := k) hr (by rw [jrow_same]; exact hKn) (by rw [jrow_same]; exact hTn) hk0 (by omega) (p := i) (by omega) (by omega) (by rw [jrow_same, np3, hne 4 (by omega)]; omega)
      rw [jrow_same, np3, hwn] at h261
      rw [h261]
      simp only [zk_l, zk_r, Option.toList_some, Option.toList_none, List.cons_append, List.nil_append, zrokB, zrokB0, zrokB1, zrokJ0, zrokJ1, and_true, true_and, and_self, if_true, if_false, b2_0, b2_1, b2_not, ite_self]
      rw [sg_263_92 (hp0 := hr)]
      have hmx : ∀ t : Int, -1000 ≤ t → t ≤ 100000 → htF u (u (72 + 7 * (i : Int))) t = max 0 (t - 10 * u (36 + 6 * u (72 + 7 * (i : Int)) + 2)) + max 0 (10 * u (36 + 6 * u (72 + 7 * (i : Int)) + 1) - t) := fun t _ _ => rfl
      generalize hwt : waF u (u (72 + 7 * (i : Int) + 3)) = wt at *
      have hm1 : jmax (jI 0) (jI wt - jI 10 * jI (u (36 + 6 * u (72 + 7 * (i : Int)) + 2))) = jI (max 0 (wt - 10 * u (36 + 6 * u (72 + 7 * (i : Int)) + 2))) := by
        rw [jI_mul, jI_sub, jmax_j (by omega) (by omega) (by omega) (by omega)]
      have hm2 : jmax (jI 0) (jI 10 * jI (u (36 + 6 * u (72 + 7 * (i : Int)) + 1)) - jI wt) = jI (max 0 (10 * u (36 + 6 * u (72 + 7 * (i : Int)) + 1) - wt)) := by
        rw [jI_mul, jI_sub, jmax_j (by omega) (by omega) (by omega) (by omega)]
      have h36 : 36 ≤ 36 + 6 * u (72 + 7 * (i : Int)) ∧ 36 + 6 * u (72 + 7 * (i : Int)) < 72 := by omega
      have rd2 : jm (jrow J r (niP u (i : Int))) r (jI (36 + 6 * u (72 + 7 * (i : Int))) + jI 2).toNatClampNeg = jI (u (36 + 6 * u (72 + 7 * (i : Int)) + 2)) := by
        simp (disch := first | assumption | omega) only [ng2, zk_l, zk_r, Option.toList_some, Option.toList_none, List.cons_append, List.nil_append, zrokB, zrokB0, zrokB1, zrokJ0, zrokJ1, and_true, true_and, and_self, if_true, if_false, b2_0, b2_1, b2_not, ite_self, Int.add_zero, jI_nat, jI_add, jI_sub, jI_mul, jI_neg, jI_lt, jI_le, jI_eq, jI_lt0, jI_0lt, jI_le0, jI_0le, jI_eq0, jI_in, jI_dv, i_mod, jI_cl, jm_n, jz_n, i_lit, i_c0, i_c1, Int.toNat_of_nonneg, Int.toNat_natCast, jrow_same, jrow_ne, jrow_jrow, sset_eq, sset_ne]
      have rd1 : jm (jrow J r (niP u (i : Int))) r (jI (36 + 6 * u (72 + 7 * (i : Int))) + jI 1).toNatClampNeg = jI (u (36 + 6 * u (72 + 7 * (i : Int)) + 1)) := by
        simp (disch := first | assumption | omega) only [ng1, zk_l, zk_r, Option.toList_some, Option.toList_none, List.cons_append, List.nil_append, zrokB, zrokB0, zrokB1, zrokJ0, zrokJ1, and_true, true_and, and_self, if_true, if_false, b2_0, b2_1, b2_not, ite_self, Int.add_zero, jI_nat, jI_add, jI_sub, jI_mul, jI_neg, jI_lt, jI_le, jI_eq, jI_lt0, jI_0lt, jI_le0, jI_0le, jI_eq0, jI_in, jI_dv, i_mod, jI_cl, jm_n, jz_n, i_lit, i_c0, i_c1, Int.toNat_of_nonneg, Int.toNat_natCast, jrow_same, jrow_ne, jrow_jrow, sset_eq, sset_ne]
      simp only [rd1, rd2, hm1, hm2]
      simp (disch := first | assumption | omega) only [np2, np4, np5, zk_l, zk_r, Option.toList_some, Option.toList_none, List.cons_append, List.nil_append, zrokB, zrokB0, zrokB1, zrokJ0, zrokJ1, and_true, true_and, and_self, if_true, if_false, b2_0, b2_1, b2_not, ite_self, Int.add_zero, jI_nat, jI_add, jI_sub, jI_mul, jI_neg, jI_lt, jI_le, jI_eq, jI_lt0, jI_0lt, jI_le0, jI_0le, jI_eq0, jI_in, jI_dv, i_mod, jI_cl, jm_n, jz_n, i_lit, i_c0, i_c1, Int.toNat_of_nonneg, Int.toNat_natCast, jrow_same, jrow_ne, jrow_jrow, sset_eq, sset_ne]
      rw [← hmx wt (by omega) (by omega)]
      generalize hhv : htF u (u (72 + 7 * (i : Int))) wt = hv at *
      by_cases c2 : u (72 + 7 * (i : Int) + 2) = 0
      · rw [if_pos c2]
        have hcg : ∀ j, (36 ≤ j ∧ j < 72) ∨ (392 ≤ j ∧ j < 400) ∨ (72 ≤ j ∧ j < 352 ∧ (j - 72) % 7 = 0) → sset (niP u (i : Int)) (72 + 7 * (i : Int) + 4) (u (72 + 7 * (i : Int) + 4) + hv) j = u j := fun j hj => by rw [sset_ne (by omega), niP_ne (by omega)]
        have hx6 : sset (niP u (i : Int)) (72 + 7 * (i : Int) + 4) (u (72 + 7 * (i : Int) + 4) + hv) 6 = u 6 := by rw [sset_ne (by omega), n6]
        have hx8 : sset (niP u (i : Int)) (72 + 7 * (i : Int) + 4) (u (72 + 7 * (i : Int) + 4) + hv) 8 = u 8 := by rw [sset_ne (by omega), niP_ne (by omega)]
        have hxp : ∀ j, 72 ≤ j ∧ j < 352 ∧ ¬ ((j - 72) % 7 = 4 ∨ (j - 72) % 7 = 5) → sset (niP u (i : Int)) (72 + 7 * (i : Int) + 4) (u (72 + 7 * (i : Int) + 4) + hv) j = u j := fun j hj => by rw [sset_ne (by omega), niP_ne (by omega)]
        have hsx : same u (sset (niP u (i : Int)) (72 + 7 * (i : Int) + 4) (u (72 + 7 * (i : Int) + 4) + hv)) := vre_same (vre_set (fun j hj => niP_ne (by unfold vr at hj; omega)) (by unfold vr; omega)) (by omega) (by omega)
        have hx5 : sset (niP u (i : Int)) (72 + 7 * (i : Int) + 4) (u (72 + 7 * (i : Int) + 4) + hv) 5 = u 5 := by rw [sset_ne (by omega), niP_ne (by omega)]
        have hKx := okK_same hK1 hsx
        have hqx : ∀ a, 0 ≤ a → a < u 8 → 0 ≤ u (392 + a) ∧ u (392 + a) < 40 ∧ 0 ≤ u (72 + 7 * u (392 + a)) ∧ u (72 + 7 * u (392 + a)) < u 5 := fun a a0 a1' => by
          obtain ⟨y1, y2, y3⟩ := hQ.1 a a0 a1'
          obtain ⟨y4, y5, -⟩ := hP _ y1 y2
          exact ⟨y1, by omega, y4, y5⟩
        generalize hxr : sset (niP u (i : Int)) (72 + 7 * (i : Int) + 4) (u (72 + 7 * (i : Int) + 4) + hv) = x at *
        have h262 := sp_262 (W := W) (J := jrow J r x) (r := r) (Q := zk Q (fun v1 I1 => wz W 263 152 [.ref r, .int (jI i), .int (jI (72 + 7 * (i : Int))), .int (jI (36 + 6 * u (72 + 7 * (i : Int)))), .int (jI wt)] (v1.toList ++ [.int (jI (u (72 + 7 * (i : Int) + 5))), .int (jI (72 + 7 * (i : Int) + 5)), .ref r]) I1 Q)) hr (by rw [jrow_same]; exact hKx.2.2.1) (by rw [jrow_same, hx5]; omega) (by
            rw [jrow_same, hx5, hx8]
            intro a a0 a1'
            obtain ⟨y1, y2, y3, y4⟩ := hqx a a0 a1'
            rw [hcg (392 + a) (by omega), hcg (72 + 7 * u (392 + a)) (by omega)]
            exact ⟨y1, y2, y3, y4⟩) (by rw [jrow_same, hx8]; omega) (by rw [jrow_same, hx8]; omega) (p := i) (by omega) (by omega) (by rw [jrow_same, hcg _ (by omega)]; exact q1) (by rw [jrow_same, hcg _ (by omega), hx5]; exact q2)
        have hsm : smF x (u (72 + 7 * (i : Int))) = smF u (u (72 + 7 * (i : Int))) := by
          unfold smF
          rw [hx8]
          exact smK_cg hcg (fun a a0 a1' => by obtain ⟨y1, y2, y3, y4⟩ := hqx a a0 a1'; exact ⟨y1, y2, y3, by omega⟩) a6 q1 (by omega) _ (by omega)
        rw [jrow_same, hcg (72 + 7 * (i : Int)) (by omega), hsm] at h262
        rw [h262]
        simp only [zk_l, zk_r, Option.toList_some, Option.toList_none, List.cons_append, List.nil_append, zrokB, zrokB0, zrokB1, zrokJ0, zrokJ1, and_true, true_and, and_self, if_true, if_false, b2_0, b2_1, b2_not, ite_self]
        rw [sg_263_152 (hp0 := hr), sg_263_156 (hp0 := hr)]
        simp (disch := first | assumption | omega) only [zk_l, zk_r, Option.toList_some, Option.toList_none, List.cons_append, List.nil_append, zrokB, zrokB0, zrokB1, zrokJ0, zrokJ1, and_true, true_and, and_self, if_true, if_false, b2_0, b2_1, b2_not, ite_self, Int.add_zero, jI_nat, jI_add, jI_sub, jI_mul, jI_neg, jI_lt, jI_le, jI_eq, jI_lt0, jI_0lt, jI_le0, jI_0le, jI_eq0, jI_in, jI_dv, i_mod, jI_cl, jm_n, jz_n, i_lit, i_c0, i_c1, Int.toNat_of_nonneg, Int.toNat_natCast, jrow_same, jrow_ne, jrow_jrow, sset_eq, sset_ne]
        rw [sg_263_158 (hp0 := hr), jI_add, ← hxr, niP_s1 (by omega) c (by rw [hwt, hhv]) (by rw [if_pos c2])]
        rfl
      · rw [if_neg c2, sg_263_156 (hp0 := hr)]
        simp (disch := first | assumption | omega) only [zk_l, zk_r, Option.toList_some, Option.toList_none, List.cons_append, List.nil_append, zrokB, zrokB0, zrokB1, zrokJ0, zrokJ1, and_true, true_and, and_self, if_true, if_false, b2_0, b2_1, b2_not, ite_self, Int.add_zero, jI_nat, jI_add, jI_sub, jI_mul, jI_neg, jI_lt, jI_le, jI_eq, jI_lt0, jI_0lt, jI_le0, jI_0le, jI_eq0, jI_in, jI_dv, i_mod, jI_cl, jm_n, jz_n, i_lit, i_c0, i_c1, Int.toNat_of_nonneg, Int.toNat_natCast, jrow_same, jrow_ne, jrow_jrow, sset_eq, sset_ne]
        rw [sg_263_158 (hp0 := hr), jI_add, niP_s1 (by omega) c (by rw [hwt, hhv]) (by rw [if_neg c2])]
        rfl
    · refine ⟨(.int (jI (72 + 7 * (i : Int))), .int (jI (36 + 6 * u (72 + 7 * (i : Int)))), v.2.2), ?_⟩
      try simp only
      rw [sg_263_50 (hp0 := hr)]
      simp (disch := first | assumption | omega) only [n6, np0, np2, zk_l, zk_r, Option.toList_some, Option.toList_none, List.cons_append, List.nil_append, zrokB, zrokB0, zrokB1, zrokJ0, zrokJ1, and_true, true_and, and_self, if_true, if_false, b2_0, b2_1, b2_not, ite_self, Int.add_zero, jI_nat, jI_add, jI_sub, jI_mul, jI_neg, jI_lt, jI_le, jI_eq, jI_lt0, jI_0lt, jI_le0, jI_0le, jI_eq0, jI_in, jI_dv, i_mod, jI_cl, jm_n, jz_n, i_lit, i_c0, i_c1, Int.toNat_of_nonneg, Int.toNat_natCast, jrow_same, jrow_ne, jrow_jrow, sset_eq, sset_ne]
      rw [if_neg (by omega), if_pos (by omega), sg_263_158 (hp0 := hr), jI_add, niP_s0 (by omega) c]
      rfl)
  have z1 : jrow J r (niP u ((0 : Nat) : Int)) = jrow J r u := by rw [show ((0 : Nat) : Int) = 0 from rfl, niP_0]
  rw [z1] at key2
  refine Eq.trans key2 ?_
  try simp only
  rw [sg_263_50 (hp0 := hr)]
  have f6 : niP u (u 6) 6 = u 6 := niP_ne (by omega)
  have f0 : niP u (u 6) 0 = u 0 := niP_ne (by omega)
  simp (disch := first | assumption | omega) only [f6, f0, zk_l, zk_r, Option.toList_some, Option.toList_none, List.cons_append, List.nil_append, zrokB, zrokB0, zrokB1, zrokJ0, zrokJ1, and_true, true_and, and_self, if_true, if_false, b2_0, b2_1, b2_not, ite_self, Int.add_zero, jI_nat, jI_add, jI_sub, jI_mul, jI_neg, jI_lt, jI_le, jI_eq, jI_lt0, jI_0lt, jI_le0, jI_0le, jI_eq0, jI_in, jI_dv, i_mod, jI_cl, jm_n, jz_n, i_lit, i_c0, i_c1, Int.toNat_of_nonneg, Int.toNat_natCast, jrow_same, jrow_ne, jrow_jrow, sset_eq, sset_ne]
  rw [if_pos (by omega)]
  unfold fNight
  rw [hu, ← e0, ← e6]
end
