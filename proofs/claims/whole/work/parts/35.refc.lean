/-! ===== the reference: what changes its state ===== -/
def zro (s : Int → Int) (p n : Int) : Int → Int := fun j => if p ≤ j ∧ j < p + n then 0 else s j
theorem zro_in {s : Int → Int} {p n j : Int} (h : p ≤ j ∧ j < p + n) : zro s p n j = 0 := if_pos h
theorem zro_ne {s : Int → Int} {p n j : Int} (h : ¬ (p ≤ j ∧ j < p + n)) : zro s p n j = s j := if_neg h
def fAdd (s : Int → Int) (g : Int) : Int → Int := sset (sset (sset (sset (sset (sset (zro s (72 + 7 * s 6) 7) (72 + 7 * s 6) g) (72 + 7 * s 6 + 1) (s 0)) (72 + 7 * s 6 + 3) (-1)) (392 + s 8) (s 6)) 8 (s 8 + 1)) 6 (s 6 + 1)
/-- where p is waiting -/
def qps (s : Int → Int) (p : Int) : Nat := zfst (fun i => decide (s (392 + (i : Int)) = p)) 8
def fLvk (s : Int → Int) (p k : Int) : Int → Int := fun j => if j = 8 then s 8 - 1 else if 392 + (qps s p : Int) ≤ j ∧ j < 392 + k then s (j + 1) else s j
def fLv (s : Int → Int) (p : Int) : Int → Int := fLvk s p (s 8 - 1)
def fOpen (s : Int → Int) (c : Int) : Int → Int := sset s (12 + 8 * c + 5) (s (12 + 8 * c + 5) + 1)
def fPut (s : Int → Int) (p c cell : Int) : Int → Int := sset (sset (sset s (400 + 24 * c + cell) p) (72 + 7 * p + 3) (24 * c + cell)) (72 + 7 * p + 2) 1
def fTake (s : Int → Int) (p : Int) : Int → Int := sset (sset s (400 + s (72 + 7 * p + 3)) (-1)) (72 + 7 * p + 3) (-1)
def fGoes (s : Int → Int) (p how : Int) : Int → Int := sset (sset (sset s (72 + 7 * p + 2) how) (72 + 7 * p + 6) (s 0)) (if how = 2 then 9 else 10) (s (if how = 2 then 9 else 10) + 1)
def fEnq (s : Int → Int) (p : Int) : Int → Int := sset (sset s (392 + s 8) p) 8 (s 8 + 1)
theorem qps_at {s : Int → Int} {p : Int} (h8 : s 8 ≤ 8) (h : ∃ i, 0 ≤ i ∧ i < s 8 ∧ s (392 + i) = p) : (qps s p : Int) < s 8 ∧ s (392 + (qps s p : Int)) = p ∧ ∀ i : Nat, i < qps s p → s (392 + (i : Int)) ≠ p := by
  obtain ⟨i, i0, i1, hi⟩ := h
  have hle := zfst_le (fun i : Nat => decide (s (392 + (i : Int)) = p)) 8
  have hy := zfst_yes (fun i : Nat => decide (s (392 + (i : Int)) = p)) 8
  have hno := zfst_no (fun i : Nat => decide (s (392 + (i : Int)) = p)) 8
  unfold qps
  have hz : zfst (fun i : Nat => decide (s (392 + (i : Int)) = p)) 8 ≤ i.toNat := by
    by_cases q : i.toNat < zfst (fun i : Nat => decide (s (392 + (i : Int)) = p)) 8
    · have := hno i.toNat q
      try simp only at this
      rw [Int.toNat_of_nonneg i0, hi, decide_eq_true rfl] at this
      cases this
    · omega
  refine ⟨by omega, ?_, fun j hj => ?_⟩
  · have := hy (by omega)
    simpa using this
  · have := hno j hj
    simpa using this
section
variable {W : zW} {J : zJ} {Q : zO → zI → Prop}
theorem sp_195 {r : Nat} (hr : zArr r 472) : wz W 195 0 [.ref r, .float 0] [] (jm J) Q = Q oV (jm (jrow J r (sset (sset (sset (fun j => if 0 ≤ j ∧ j < 472 then (if j < 400 then 0 else -1) else J r j) 1 100) 2 10) 3 12))) := by
  rw [sg_195_0 (hp0 := hr)]
  have key := zloop (f := fun k => wz W 195 2 [.ref r, .int (jI k)] [] (jm (jrow J r (fun j => if 0 ≤ j ∧ j < k then (if j < 400 then 0 else -1) else J r j))) Q) 472 (fun k hk => by
    try simp only
    rw [sg_195_2 (hp0 := hr)]
    simp (disch := first | assumption | omega) only [sg_195_23, zk_l, zk_r, Option.toList_some, Option.toList_none, List.cons_append, List.nil_append, zrokB, zrokB0, zrokB1, zrokJ0, zrokJ1, and_true, true_and, and_self, if_true, if_false, b2_0, b2_1, b2_not, ite_self, Int.add_zero, jI_nat, jI_add, jI_sub, jI_mul, jI_neg, jI_lt, jI_le, jI_eq, jI_lt0, jI_0lt, jI_le0, jI_0le, jI_eq0, jI_in, jI_dv, i_mod, jI_cl, jm_n, jz_n, i_lit, i_c0, i_c1, Int.toNat_of_nonneg, Int.toNat_natCast, jrow_same, jrow_ne, jrow_jrow, sset_eq, sset_ne]
    rw [if_neg (by omega)]
    have e : ∀ v : Int, v = (if (k : Int) < 400 then 0 else -1) → sset (fun j => if 0 ≤ j ∧ j < (k : Int) then (if j < 400 then (0 : Int) else -1) else J r j) k v = (fun j => if 0 ≤ j ∧ j < ((k + 1 : Nat) : Int) then (if j < 400 then 0 else -1) else J r j) := by
      intro v hv
      funext j
      unfold sset
      by_cases h : j = k
      · rw [if_pos h, if_pos (by omega), hv, h]
      · rw [if_neg h]
        show (if 0 ≤ j ∧ j < (k : Int) then (if j < 400 then (0 : Int) else -1) else J r j) = _
        by_cases h2 : 0 ≤ j ∧ j < k
        · rw [if_pos h2, if_pos (show 0 ≤ j ∧ j < ((k + 1 : Nat) : Int) by omega)]
        · rw [if_neg h2, if_neg (show ¬ (0 ≤ j ∧ j < ((k + 1 : Nat) : Int)) by omega)]
    by_cases h : (400 : Int) ≤ k
    · rw [if_pos h, e (-1) (by rw [if_neg (by omega)])]
      rfl
    · rw [if_neg h, e 0 (by rw [if_pos (by omega)])]
      rfl)
  have e0 : jrow J r (fun j => if 0 ≤ j ∧ j < ((0 : Nat) : Int) then (if j < 400 then (0 : Int) else -1) else J r j) = J := by
    have : (fun j => if 0 ≤ j ∧ j < ((0 : Nat) : Int) then (if j < 400 then (0 : Int) else -1) else J r j) = J r := by
      funext j
      rw [if_neg (by omega)]
    rw [this, jrow_id]
  rw [e0] at key
  refine Eq.trans key ?_
  rw [sg_195_2 (hp0 := hr)]
  simp (disch := first | assumption | omega) only [zk_l, zk_r, Option.toList_some, Option.toList_none, List.cons_append, List.nil_append, zrokB, zrokB0, zrokB1, zrokJ0, zrokJ1, and_true, true_and, and_self, if_true, if_false, b2_0, b2_1, b2_not, ite_self, Int.add_zero, jI_nat, jI_add, jI_sub, jI_mul, jI_neg, jI_lt, jI_le, jI_eq, jI_lt0, jI_0lt, jI_le0, jI_0le, jI_eq0, jI_in, jI_dv, i_mod, jI_cl, jm_n, jz_n, i_lit, i_c0, i_c1, Int.toNat_of_nonneg, Int.toNat_natCast, jrow_same, jrow_ne, jrow_jrow, sset_eq, sset_ne]
  rw [if_pos (by omega)]
theorem sp_196 {r q : Nat} {nr nq : Nat} (hr : zArr r nr) (hq : zArr q nq) (h1 : 472 ≤ nr) (h2 : 472 ≤ nq) (h3 : nr ≤ 100000) (h4 : nq ≤ 100000) (hne : r ≠ q) : wz W 196 0 [.ref r, .ref q, .float 0] [] (jm J) Q = Q oV (jm (jrow J q (scpy (J r) (J q) 472))) := by
  rw [sg_196_0 (hp0 := hr) (hp1 := hq)]
  have key := zloop (f := fun k => wz W 196 2 [.ref r, .ref q, .int (jI k)] [] (jm (jrow J q (scpy (J r) (J q) k))) Q) 472 (fun k hk => by
    try simp only
    rw [sg_196_2 (hp0 := hr) (hp1 := hq)]
    simp (disch := first | assumption | omega) only [zk_l, zk_r, Option.toList_some, Option.toList_none, List.cons_append, List.nil_append, zrokB, zrokB0, zrokB1, zrokJ0, zrokJ1, and_true, true_and, and_self, if_true, if_false, b2_0, b2_1, b2_not, ite_self, Int.add_zero, jI_nat, jI_add, jI_sub, jI_mul, jI_neg, jI_lt, jI_le, jI_eq, jI_lt0, jI_0lt, jI_le0, jI_0le, jI_eq0, jI_in, jI_dv, i_mod, jI_cl, jm_n, jz_n, i_lit, i_c0, i_c1, Int.toNat_of_nonneg, Int.toNat_natCast, jrow_same, jrow_ne, jrow_jrow, sset_eq, sset_ne]
    rw [if_neg (by omega)]
    have e : sset (scpy (J r) (J q) k) k (J r k) = scpy (J r) (J q) ((k + 1 : Nat) : Int) := by
      funext j
      unfold sset scpy
      by_cases h : j = k
      · rw [if_pos h, if_pos (by omega), h]
      · rw [if_neg h]
        by_cases h2 : 0 ≤ j ∧ j < k
        · rw [if_pos h2, if_pos (by omega)]
        · rw [if_neg h2, if_neg (by omega)]
    rw [e]
    rfl)
  have e0 : jrow J q (scpy (J r) (J q) ((0 : Nat) : Int)) = J := by
    have : scpy (J r) (J q) ((0 : Nat) : Int) = J q := by
      funext j
      unfold scpy
      rw [if_neg (by omega)]
    rw [this, jrow_id]
  rw [e0] at key
  refine Eq.trans key ?_
  rw [sg_196_2 (hp0 := hr) (hp1 := hq)]
  simp (disch := first | assumption | omega) only [Int.add_zero, jI_nat, jI_add, jI_sub, jI_mul, jI_neg, jI_lt, jI_le, jI_eq, jI_lt0, jI_0lt, jI_le0, jI_0le, jI_eq0, jI_in, jI_dv, i_mod]
  rw [if_pos (by omega)]
  rfl
theorem sp_197 {r : Nat} (hr : zArr r 472) {g : Int} (h6 : 0 ≤ J r 6) (h6' : J r 6 < 40) (h8 : 0 ≤ J r 8) (h8' : J r 8 < 8) : wz W 197 0 [.ref r, .int (jI g), .float 0, .float 0] [] (jm J) Q = Q oV (jm (jrow J r (fAdd (J r) g))) := by
  rw [sg_197_0 (hp0 := hr)]
  simp (disch := first | assumption | omega) only [zk_l, zk_r, Option.toList_some, Option.toList_none, List.cons_append, List.nil_append, zrokB, zrokB0, zrokB1, zrokJ0, zrokJ1, and_true, true_and, and_self, if_true, if_false, b2_0, b2_1, b2_not, ite_self, Int.add_zero, jI_nat, jI_add, jI_sub, jI_mul, jI_neg, jI_lt, jI_le, jI_eq, jI_lt0, jI_0lt, jI_le0, jI_0le, jI_eq0, jI_in, jI_dv, i_mod, jI_cl, jm_n, jz_n, i_lit, i_c0, i_c1, Int.toNat_of_nonneg, Int.toNat_natCast, jrow_same, jrow_ne, jrow_jrow, sset_eq, sset_ne]
  generalize hs : J r = s at *
  have key := zloop (f := fun k => wz W 197 13 [.ref r, .int (jI g), .int (jI (72 + 7 * s 6)), .int (jI k)] [] (jm (jrow J r (zro s (72 + 7 * s 6) k))) Q) 7 (fun k hk => by
    try simp only
    rw [sg_197_13 (hp0 := hr)]
    simp (disch := first | assumption | omega) only [zk_l, zk_r, Option.toList_some, Option.toList_none, List.cons_append, List.nil_append, zrokB, zrokB0, zrokB1, zrokJ0, zrokJ1, and_true, true_and, and_self, if_true, if_false, b2_0, b2_1, b2_not, ite_self, Int.add_zero, jI_nat, jI_add, jI_sub, jI_mul, jI_neg, jI_lt, jI_le, jI_eq, jI_lt0, jI_0lt, jI_le0, jI_0le, jI_eq0, jI_in, jI_dv, i_mod, jI_cl, jm_n, jz_n, i_lit, i_c0, i_c1, Int.toNat_of_nonneg, Int.toNat_natCast, jrow_same, jrow_ne, jrow_jrow, sset_eq, sset_ne]
    rw [if_neg (by omega)]
    have e : sset (zro s (72 + 7 * s 6) k) (72 + 7 * s 6 + k) 0 = zro s (72 + 7 * s 6) ((k + 1 : Nat) : Int) := by
      funext j
      unfold sset zro
      by_cases h : j = 72 + 7 * s 6 + k
      · rw [if_pos h, if_pos (by omega)]
      · rw [if_neg h]
        by_cases h2 : 72 + 7 * s 6 ≤ j ∧ j < 72 + 7 * s 6 + k
        · rw [if_pos h2, if_pos (by omega)]
        · rw [if_neg h2, if_neg (by omega)]
    rw [e]
    rfl)
  have e0 : jrow J r (zro s (72 + 7 * s 6) ((0 : Nat) : Int)) = J := by
    have : zro s (72 + 7 * s 6) ((0 : Nat) : Int) = s := by
      funext j
      unfold zro
      rw [if_neg (by omega)]
    rw [this, ← hs, jrow_id]
  rw [e0] at key
  refine Eq.trans key ?_
  rw [sg_197_13 (hp0 := hr)]
  have z0 : zro s (72 + 7 * s 6) 7 0 = s 0 := zro_ne (by omega)
  have z6 : zro s (72 + 7 * s 6) 7 6 = s 6 := zro_ne (by omega)
  have z8 : zro s (72 + 7 * s 6) 7 8 = s 8 := zro_ne (by omega)
  simp (disch := first | assumption | omega) only [z0, z6, z8, zk_l, zk_r, Option.toList_some, Option.toList_none, List.cons_append, List.nil_append, zrokB, zrokB0, zrokB1, zrokJ0, zrokJ1, and_true, true_and, and_self, if_true, if_false, b2_0, b2_1, b2_not, ite_self, Int.add_zero, jI_nat, jI_add, jI_sub, jI_mul, jI_neg, jI_lt, jI_le, jI_eq, jI_lt0, jI_0lt, jI_le0, jI_0le, jI_eq0, jI_in, jI_dv, i_mod, jI_cl, jm_n, jz_n, i_lit, i_c0, i_c1, Int.toNat_of_nonneg, Int.toNat_natCast, jrow_same, jrow_ne, jrow_jrow, sset_eq, sset_ne]
  rw [if_pos (by omega)]
  rfl
theorem sp_239 {p : Int} (p1 : -2147483648 ≤ p) (p2 : p < 2147483648) (h8 : 0 ≤ J 355 8) (h8' : J 355 8 ≤ 8) (hb : ∀ i, 0 ≤ i → i < J 355 8 → -2147483648 ≤ J 355 (392 + i) ∧ J 355 (392 + i) < 2147483648) (h : ∃ i, 0 ≤ i ∧ i < J 355 8 ∧ J 355 (392 + i) = p) : wz W 239 0 [.ref 353, .int (jI p), .float 0] [] (jm J) Q = Q oV (jm (jrow J 355 (fLv (J 355) p))) := by
  obtain ⟨q1, q2, q3⟩ := qps_at h8' h
  generalize hs : J 355 = s at *
  generalize hm : qps s p = m at *
  rw [sg_239_0]
  have key := zloop (f := fun k => wz W 239 2 [.ref 353, .int (jI p), .int (jI k)] [] (jm J) Q) m (fun k hk => by
    try simp only
    have hbk := hb k (by omega) (by omega)
    have hne := q3 k hk
    rw [sg_239_2]
    simp (disch := first | assumption | omega) only [hs, zk_l, zk_r, Option.toList_some, Option.toList_none, List.cons_append, List.nil_append, zrokB, zrokB0, zrokB1, zrokJ0, zrokJ1, and_true, true_and, and_self, if_true, if_false, b2_0, b2_1, b2_not, ite_self, Int.add_zero, jI_nat, jI_add, jI_sub, jI_mul, jI_neg, jI_lt, jI_le, jI_eq, jI_lt0, jI_0lt, jI_le0, jI_0le, jI_eq0, jI_in, jI_dv, i_mod, jI_cl, jm_n, jz_n, i_lit, i_c0, i_c1, Int.toNat_of_nonneg, Int.toNat_natCast, jrow_same, jrow_ne, jrow_jrow, sset_eq, sset_ne]
    rw [if_neg hne]
    rfl)
  refine Eq.trans key ?_
  rw [sg_239_2]
  have hbm := hb m (by omega) (by omega)
  simp (disch := first | assumption | omega) only [hs, zk_l, zk_r, Option.toList_some, Option.toList_none, List.cons_append, List.nil_append, zrokB, zrokB0, zrokB1, zrokJ0, zrokJ1, and_true, true_and, and_self, if_true, if_false, b2_0, b2_1, b2_not, ite_self, Int.add_zero, jI_nat, jI_add, jI_sub, jI_mul, jI_neg, jI_lt, jI_le, jI_eq, jI_lt0, jI_0lt, jI_le0, jI_0le, jI_eq0, jI_in, jI_dv, i_mod, jI_cl, jm_n, jz_n, i_lit, i_c0, i_c1, Int.toNat_of_nonneg, Int.toNat_natCast, jrow_same, jrow_ne, jrow_jrow, sset_eq, sset_ne]
  rw [if_pos q2]
  have hrun : ∀ k : Nat, wz W 239 33 [.ref 353, .int (jI p), .int (jI (m : Int))] [] (jm (jrow J 355 (fLvk s p (m : Int)))) Q = wz W 239 33 [.ref 353, .int (jI p), .int (jI ((m : Int) + (k : Nat)))] [] (jm (jrow J 355 (fLvk s p ((m : Int) + (k : Nat))))) Q ∨ ¬ ((m : Int) + k ≤ s 8 - 1) := by
    intro k
    induction k with
    | zero => left; rw [show (m : Int) + ((0 : Nat) : Int) = m by omega]
    | succ k ih =>
      by_cases hk : (m : Int) + (k + 1 : Nat) ≤ s 8 - 1
      · left
        rcases ih with ih | ih
        · refine ih.trans ?_
          have e8 : fLvk s p ((m : Int) + k) 8 = s 8 - 1 := if_pos rfl
          have e9 : fLvk s p ((m : Int) + k) (392 + ((m : Int) + k) + 1) = s (392 + ((m : Int) + k) + 1) := by
            unfold fLvk
            rw [if_neg (by omega), if_neg (by omega)]
          rw [sg_239_33]
          simp (disch := first | assumption | omega) only [e8, e9, zk_l, zk_r, Option.toList_some, Option.toList_none, List.cons_append, List.nil_append, zrokB, zrokB0, zrokB1, zrokJ0, zrokJ1, and_true, true_and, and_self, if_true, if_false, b2_0, b2_1, b2_not, ite_self, Int.add_zero, jI_nat, jI_add, jI_sub, jI_mul, jI_neg, jI_lt, jI_le, jI_eq, jI_lt0, jI_0lt, jI_le0, jI_0le, jI_eq0, jI_in, jI_dv, i_mod, jI_cl, jm_n, jz_n, i_lit, i_c0, i_c1, Int.toNat_of_nonneg, Int.toNat_natCast, jrow_same, jrow_ne, jrow_jrow, sset_eq, sset_ne]
          rw [if_neg (by omega)]
          have e : sset (fLvk s p ((m : Int) + k)) (392 + ((m : Int) + k)) (s (392 + ((m : Int) + k) + 1)) = fLvk s p ((m : Int) + (k + 1 : Nat)) := by
            funext j
            unfold sset fLvk
            rw [hm]
            by_cases h1 : j = 392 + ((m : Int) + k)
            · rw [if_pos h1, if_neg (by omega), if_pos (by omega), h1]
            · rw [if_neg h1]
              by_cases h2 : j = 8
              · rw [if_pos h2, if_pos h2]
              · rw [if_neg h2, if_neg h2]
                by_cases h3 : 392 + (m : Int) ≤ j ∧ j < 392 + ((m : Int) + k)
                · rw [if_pos h3, if_pos (by omega)]
                · rw [if_neg h3, if_neg (by omega)]
          rw [e]
          rfl
        · omega
      · right; exact hk
  have e1 : sset s 8 (s 8 - 1) = fLvk s p (m : Int) := by
    funext j
    unfold sset fLvk
    rw [hm]
    by_cases h2 : j = 8
    · rw [if_pos h2, if_pos h2]
    · rw [if_neg h2, if_neg h2, if_neg (by omega)]
  rw [e1]
  have hfin := hrun (s 8 - 1 - m).toNat
  rw [show (m : Int) + ((s 8 - 1 - m).toNat : Nat) = s 8 - 1 by omega] at hfin
  rcases hfin with hfin | hfin
  · refine hfin.trans ?_
    have e8 : fLvk s p (s 8 - 1) 8 = s 8 - 1 := if_pos rfl
    rw [sg_239_33]
    simp (disch := first | assumption | omega) only [e8, zk_l, zk_r, Option.toList_some, Option.toList_none, List.cons_append, List.nil_append, zrokB, zrokB0, zrokB1, zrokJ0, zrokJ1, and_true, true_and, and_self, if_true, if_false, b2_0, b2_1, b2_not, ite_self, Int.add_zero, jI_nat, jI_add, jI_sub, jI_mul, jI_neg, jI_lt, jI_le, jI_eq, jI_lt0, jI_0lt, jI_le0, jI_0le, jI_eq0, jI_in, jI_dv, i_mod, jI_cl, jm_n, jz_n, i_lit, i_c0, i_c1, Int.toNat_of_nonneg, Int.toNat_natCast, jrow_same, jrow_ne, jrow_jrow, sset_eq, sset_ne]
    rw [if_pos (by omega)]
    rfl
  · omega
theorem sp_240 {c : Int} (c0 : 0 ≤ c) (c1 : c < 3) : wz W 240 0 [.ref 353, .int (jI c)] [] (jm J) Q = Q oV (jm (jrow J 355 (fOpen (J 355) c))) := by
  rw [sg_240_0]
  simp (disch := first | assumption | omega) only [zk_l, zk_r, Option.toList_some, Option.toList_none, List.cons_append, List.nil_append, zrokB, zrokB0, zrokB1, zrokJ0, zrokJ1, and_true, true_and, and_self, if_true, if_false, b2_0, b2_1, b2_not, ite_self, Int.add_zero, jI_nat, jI_add, jI_sub, jI_mul, jI_neg, jI_lt, jI_le, jI_eq, jI_lt0, jI_0lt, jI_le0, jI_0le, jI_eq0, jI_in, jI_dv, i_mod, jI_cl, jm_n, jz_n, i_lit, i_c0, i_c1, Int.toNat_of_nonneg, Int.toNat_natCast, jrow_same, jrow_ne, jrow_jrow, sset_eq, sset_ne]
  rfl
theorem sp_241 {p c cell : Int} (p0 : 0 ≤ p) (p1 : p < 40) (c0 : 0 ≤ c) (c1 : c < 3) (l0 : 0 ≤ cell) (l1 : cell < 24) : wz W 241 0 [.ref 353, .int (jI p), .int (jI c), .int (jI cell)] [] (jm J) Q = Q oV (jm (jrow J 355 (fPut (J 355) p c cell))) := by
  rw [sg_241_0]
  simp (disch := first | assumption | omega) only [sp_222, sg_241_28, sg_241_35, zk_l, zk_r, Option.toList_some, Option.toList_none, List.cons_append, List.nil_append, zrokB, zrokB0, zrokB1, zrokJ0, zrokJ1, and_true, true_and, and_self, if_true, if_false, b2_0, b2_1, b2_not, ite_self, Int.add_zero, jI_nat, jI_add, jI_sub, jI_mul, jI_neg, jI_lt, jI_le, jI_eq, jI_lt0, jI_0lt, jI_le0, jI_0le, jI_eq0, jI_in, jI_dv, i_mod, jI_cl, jm_n, jz_n, i_lit, i_c0, i_c1, Int.toNat_of_nonneg, Int.toNat_natCast, jrow_same, jrow_ne, jrow_jrow, sset_eq, sset_ne]
  rfl
theorem sp_242 {p : Int} (p0 : 0 ≤ p) (p1 : p < 40) (w0 : 0 ≤ J 355 (72 + 7 * p + 3)) (w1 : J 355 (72 + 7 * p + 3) < 72) : wz W 242 0 [.ref 353, .int (jI p)] [] (jm J) Q = Q oV (jm (jrow J 355 (fTake (J 355) p))) := by
  rw [sg_242_0]
  simp (disch := first | assumption | omega) only [sp_221, Int.add_zero, jI_nat, jI_add, jI_sub, jI_mul, jI_neg, jI_lt, jI_le, jI_eq, jI_lt0, jI_0lt, jI_le0, jI_0le, jI_eq0, jI_in, jI_dv, i_mod, zk_l, zk_r, Option.toList_some, Option.toList_none, List.cons_append, List.nil_append, zrokB, zrokB0, zrokB1, zrokJ0, zrokJ1, and_true, true_and, and_self, if_true, if_false, b2_0, b2_1, b2_not, ite_self]
  rw [sg_242_13 (hqt0 := za_355)]
  simp (disch := first | assumption | omega) only [sp_222, sg_242_23, zk_l, zk_r, Option.toList_some, Option.toList_none, List.cons_append, List.nil_append, zrokB, zrokB0, zrokB1, zrokJ0, zrokJ1, and_true, true_and, and_self, if_true, if_false, b2_0, b2_1, b2_not, ite_self, Int.add_zero, jI_nat, jI_add, jI_sub, jI_mul, jI_neg, jI_lt, jI_le, jI_eq, jI_lt0, jI_0lt, jI_le0, jI_0le, jI_eq0, jI_in, jI_dv, i_mod, jI_cl, jm_n, jz_n, i_lit, i_c0, i_c1, Int.toNat_of_nonneg, Int.toNat_natCast, jrow_same, jrow_ne, jrow_jrow, sset_eq, sset_ne]
  rfl
theorem sp_250 {p how : Int} (p0 : 0 ≤ p) (p1 : p < 40) (h0 : 0 ≤ how) (h1 : how ≤ 3) : wz W 250 0 [.ref 353, .int (jI p), .int (jI how)] [] (jm J) Q = Q oV (jm (jrow J 355 (fGoes (J 355) p how))) := by
  rw [sg_250_0]
  simp (disch := first | assumption | omega) only [sp_222, sg_250_7, sg_250_20, zk_l, zk_r, Option.toList_some, Option.toList_none, List.cons_append, List.nil_append, zrokB, zrokB0, zrokB1, zrokJ0, zrokJ1, and_true, true_and, and_self, if_true, if_false, b2_0, b2_1, b2_not, ite_self, Int.add_zero, jI_nat, jI_add, jI_sub, jI_mul, jI_neg, jI_lt, jI_le, jI_eq, jI_lt0, jI_0lt, jI_le0, jI_0le, jI_eq0, jI_in, jI_dv, i_mod, jI_cl, jm_n, jz_n, i_lit, i_c0, i_c1, Int.toNat_of_nonneg, Int.toNat_natCast, jrow_same, jrow_ne, jrow_jrow, sset_eq, sset_ne]
  unfold fGoes
  by_cases h : how = 2
  · rw [if_pos h, if_pos h, sg_250_36 (hqt0 := za_355)]
    simp (disch := first | assumption | omega) only [zk_l, zk_r, Option.toList_some, Option.toList_none, List.cons_append, List.nil_append, zrokB, zrokB0, zrokB1, zrokJ0, zrokJ1, and_true, true_and, and_self, if_true, if_false, b2_0, b2_1, b2_not, ite_self, Int.add_zero, jI_nat, jI_add, jI_sub, jI_mul, jI_neg, jI_lt, jI_le, jI_eq, jI_lt0, jI_0lt, jI_le0, jI_0le, jI_eq0, jI_in, jI_dv, i_mod, jI_cl, jm_n, jz_n, i_lit, i_c0, i_c1, Int.toNat_of_nonneg, Int.toNat_natCast, jrow_same, jrow_ne, jrow_jrow, sset_eq, sset_ne]
  · rw [if_neg h, if_neg h, sg_250_36 (hqt0 := za_355)]
    simp (disch := first | assumption | omega) only [zk_l, zk_r, Option.toList_some, Option.toList_none, List.cons_append, List.nil_append, zrokB, zrokB0, zrokB1, zrokJ0, zrokJ1, and_true, true_and, and_self, if_true, if_false, b2_0, b2_1, b2_not, ite_self, Int.add_zero, jI_nat, jI_add, jI_sub, jI_mul, jI_neg, jI_lt, jI_le, jI_eq, jI_lt0, jI_0lt, jI_le0, jI_0le, jI_eq0, jI_in, jI_dv, i_mod, jI_cl, jm_n, jz_n, i_lit, i_c0, i_c1, Int.toNat_of_nonneg, Int.toNat_natCast, jrow_same, jrow_ne, jrow_jrow, sset_eq, sset_ne]
end
