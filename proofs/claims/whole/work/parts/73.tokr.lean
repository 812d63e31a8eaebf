/-! ===== the reference's tokens ===== -/
def PR (f : Int → Int) (n : Int) (T : zJ) (e : Int) : Prop := T 353 2 = n ∧ T 353 3 = tqE f n e ∧ T 353 4 = tqS f n e ∧ T 353 5 = tqK f n e ∧ (tqK f n e = 2 → T 353 6 = min 100000 (tqV f n e)) ∧ T 353 7 = -1
/-- what the tokens leave alone -/
def frT (T T' : zJ) : Prop := (∀ r, r ≠ 353 → T' r = T r) ∧ ∀ i, (i < 3 ∨ 8 ≤ i) → T' 353 i = T 353 i
theorem frT_refl (T : zJ) : frT T T := ⟨fun _ _ => rfl, fun _ _ => rfl⟩
theorem frT_trans {T T1 T2 : zJ} (h : frT T T1) (g : frT T1 T2) : frT T T2 := ⟨fun r hr => (g.1 r hr).trans (h.1 r hr), fun i hi => (g.2 i hi).trans (h.2 i hi)⟩
theorem frT_row {T : zJ} {g : Int → Int} (h : ∀ i, (i < 3 ∨ 8 ≤ i) → g i = T 353 i) : frT T (jrow T 353 g) := ⟨fun r hr => jrow_ne hr, fun i hi => by rw [jrow_same]; exact h i hi⟩
theorem sset_self {f : Int → Int} {i : Int} : sset f i (f i) = f := by
  funext j
  unfold sset
  split
  · rename_i h; rw [h]
  · rfl
theorem sset_4 {f : Int → Int} {i k a b c d : Int} (h : i ≠ k) : sset (sset (sset (sset f i a) k b) i c) k d = sset (sset f i c) k d := by
  funext j
  unfold sset
  by_cases h1 : j = k
  · simp only [if_pos h1]
  · simp only [if_neg h1]
    by_cases h2 : j = i
    · simp only [if_pos h2]
    · simp only [if_neg h2]
section
variable {W : zW} {J : zJ} {Q : zO → zI → Prop} {f : Int → Int} {n e : Int}
theorem sp_182 {k : Int} (ht : txt (J 354) f n) (h2 : J 353 2 = n) (k0 : 0 ≤ k) (k1 : k ≤ 2000) : wz W 182 0 [.ref 353, .int (jI k)] [] (jm J) Q = Q (oI (if k < n then f k else -1)) (jm J) := by
  have n9 := ht.2.1
  have n0 := ht.1
  have e2 : jm J 353 2 = jI n := by
    show jI (J 353 2) = _
    rw [h2]
  rw [sg_182_0, e2, ifL (by omega) (by omega) (by omega) (by omega)]
  by_cases c : n ≤ k
  · rw [if_pos c, sg_182_18, if_neg (show ¬ k < n by omega)]
  · have hf := (ht.2.2 k k0 (by omega)).1
    rw [if_neg c, if_pos (show k < n by omega), jI_in k0 (by omega) (by decide)]
    simp (disch := first | assumption | omega) only [zk_l, zk_r, Option.toList_some, Option.toList_none, List.cons_append, List.nil_append, zrokB, zrokB0, zrokB1, zrokJ0, zrokJ1, and_true, true_and, and_self, if_true, if_false, b2_0, b2_1, b2_not, ite_self, Int.add_zero, jI_nat, jI_add, jI_sub, jI_mul, jI_neg, jI_lt, jI_le, jI_eq, jI_lt0, jI_0lt, jI_le0, jI_0le, jI_eq0, jI_in, jI_dv, i_mod, jI_cl, jm_n, jz_n, i_lit, i_c0, i_c1, Int.toNat_of_nonneg, Int.toNat_natCast, jrow_same, jrow_ne, jrow_jrow, sset_eq, sset_ne]
    rw [sg_182_18, hf]
theorem sp_183 {c : Int} (c0 : -1 ≤ c) (c1 : c ≤ 255) : wz W 183 0 [.int (jI c)] [] (jm J) Q = Q (oB (decide (tqO c = 1))) (jm J) := by
  rw [sg_183_0]
  simp (disch := first | assumption | omega) only [Int.add_zero, jI_nat, jI_add, jI_sub, jI_mul, jI_neg, jI_lt, jI_le, jI_eq, jI_lt0, jI_0lt, jI_le0, jI_0le, jI_eq0, jI_in, jI_dv, i_mod]
  unfold tqO
  by_cases h : c < 97
  · rw [if_pos h, sg_183_16, sg_183_17, if_neg (show ¬ (97 ≤ c ∧ c ≤ 122) by omega)]
    simp only [zk_l, zk_r, Option.toList_some, Option.toList_none, List.cons_append, List.nil_append, zrokB, zrokB0, zrokB1, zrokJ0, zrokJ1, and_true, true_and, and_self, if_true, if_false, b2_0, b2_1, b2_not, ite_self]
    split <;> rfl
  · rw [if_neg h]
    by_cases h3 : 122 < c
    · rw [if_pos h3, sg_183_16, sg_183_17, if_neg (show ¬ (97 ≤ c ∧ c ≤ 122) by omega)]
      simp only [zk_l, zk_r, Option.toList_some, Option.toList_none, List.cons_append, List.nil_append, zrokB, zrokB0, zrokB1, zrokJ0, zrokJ1, and_true, true_and, and_self, if_true, if_false, b2_0, b2_1, b2_not, ite_self]
      split <;> rfl
    · rw [if_neg h3, sg_183_17, if_pos (show 97 ≤ c ∧ c ≤ 122 by omega)]
      simp only [zk_l, zk_r, Option.toList_some, Option.toList_none, List.cons_append, List.nil_append, zrokB, zrokB0, zrokB1, zrokJ0, zrokJ1, and_true, true_and, and_self, if_true, if_false, b2_0, b2_1, b2_not, ite_self]
      rfl
theorem sp_184 {c : Int} (c0 : -1 ≤ c) (c1 : c ≤ 255) : wz W 184 0 [.int (jI c)] [] (jm J) Q = Q (oB (decide (tqO c = 2))) (jm J) := by
  rw [sg_184_0]
  simp (disch := first | assumption | omega) only [Int.add_zero, jI_nat, jI_add, jI_sub, jI_mul, jI_neg, jI_lt, jI_le, jI_eq, jI_lt0, jI_0lt, jI_le0, jI_0le, jI_eq0, jI_in, jI_dv, i_mod]
  unfold tqO
  by_cases h : c < 48
  · rw [if_pos h, sg_184_16, sg_184_17, if_neg (show ¬ (97 ≤ c ∧ c ≤ 122) by omega), if_neg (show ¬ (48 ≤ c ∧ c ≤ 57) by omega)]
    simp only [zk_l, zk_r, Option.toList_some, Option.toList_none, List.cons_append, List.nil_append, zrokB, zrokB0, zrokB1, zrokJ0, zrokJ1, and_true, true_and, and_self, if_true, if_false, b2_0, b2_1, b2_not, ite_self]
    rfl
  · rw [if_neg h]
    by_cases h3 : 57 < c
    · rw [if_pos h3, sg_184_16, sg_184_17, if_neg (show ¬ (48 ≤ c ∧ c ≤ 57) by omega)]
      simp only [zk_l, zk_r, Option.toList_some, Option.toList_none, List.cons_append, List.nil_append, zrokB, zrokB0, zrokB1, zrokJ0, zrokJ1, and_true, true_and, and_self, if_true, if_false, b2_0, b2_1, b2_not, ite_self]
      split <;> rfl
    · rw [if_neg h3, sg_184_17, if_neg (show ¬ (97 ≤ c ∧ c ≤ 122) by omega), if_pos (show 48 ≤ c ∧ c ≤ 57 by omega)]
      simp only [zk_l, zk_r, Option.toList_some, Option.toList_none, List.cons_append, List.nil_append, zrokB, zrokB0, zrokB1, zrokJ0, zrokJ1, and_true, true_and, and_self, if_true, if_false, b2_0, b2_1, b2_not, ite_self]
      rfl
/-- the byte at k, or -1 -/
def pk (f : Int → Int) (n k : Int) : Int := if k < n then f k else -1
theorem pk_b {g : Int → Int} (ht : txt g f n) {k : Int} (k0 : 0 ≤ k) : -1 ≤ pk f n k ∧ pk f n k ≤ 255 := by
  unfold pk
  split
  · have := (ht.2.2 k k0 (by omega)).2; omega
  · omega
/-- advance -/
theorem sp_185 (ht : txt (J 354) f n) (h2 : J 353 2 = n) (h3 : J 353 3 = e) (h7 : J 353 7 = -1) (e0 : 0 ≤ e) (e1 : e ≤ n) : ∃ J', (∀ Q : zO → zI → Prop, wz W 185 0 [.ref 353, .float 0] [] (jm J) Q = Q oV (jm J')) ∧ PR f n J' e ∧ frT J J' := by
  have n0 := ht.1
  have n9 := ht.2.1
  have hf := ht.2.2
  have hS := tqS_b (f := f) e1
  have hK := tqK_b f n e
  have hE := tqE_b (f := f) e1
  have hpS := pk_b (k := tqS f n e) ht (by omega)
  have l1 : ∀ Q : zO → zI → Prop, wz W 185 0 [.ref 353, .float 0] [] (jm (jrow J 353 (sset (J 353) 3 (e + ((0 : Nat) : Int))))) Q = wz W 185 0 [.ref 353, .float 0] [] (jm (jrow J 353 (sset (J 353) 3 (tqS f n e)))) Q := fun Q => zloops (f := fun k : Nat => wz W 185 0 [.ref 353, .float 0] [] (jm (jrow J 353 (sset (J 353) 3 (e + (k : Int))))) Q) (fun k => !decide (f (e + (k : Int)) = 32)) (n - e).toNat (fun k hk hc => by
    have hc : f (e + (k : Int)) = 32 := by simpa using hc
    try simp only
    rw [sg_185_0]
    simp (disch := first | assumption | omega) only [zk_l, zk_r, Option.toList_some, Option.toList_none, List.cons_append, List.nil_append, zrokB, zrokB0, zrokB1, zrokJ0, zrokJ1, and_true, true_and, and_self, if_true, if_false, b2_0, b2_1, b2_not, ite_self, Int.add_zero, jI_nat, jI_add, jI_sub, jI_mul, jI_neg, jI_lt, jI_le, jI_eq, jI_lt0, jI_0lt, jI_le0, jI_0le, jI_eq0, jI_in, jI_dv, i_mod, jI_cl, jm_n, jz_n, i_lit, i_c0, i_c1, Int.toNat_of_nonneg, Int.toNat_natCast, jrow_same, jrow_ne, jrow_jrow, sset_eq, sset_ne]
    rw [sp_182 (f := f) (n := n) (by exact ht) (by rw [jrow_same, sset_ne (by decide)]; exact h2) (by omega) (by omega), if_pos (show e + (k : Int) < n by omega), hc]
    simp only [zk_l, zk_r, Option.toList_some, Option.toList_none, List.cons_append, List.nil_append, zrokB, zrokB0, zrokB1, zrokJ0, zrokJ1, and_true, true_and, and_self, if_true, if_false, b2_0, b2_1, b2_not, ite_self]
    rw [sg_185_8, if_pos rfl]
    simp (disch := first | assumption | omega) only [sset_ss, zk_l, zk_r, Option.toList_some, Option.toList_none, List.cons_append, List.nil_append, zrokB, zrokB0, zrokB1, zrokJ0, zrokJ1, and_true, true_and, and_self, if_true, if_false, b2_0, b2_1, b2_not, ite_self, Int.add_zero, jI_nat, jI_add, jI_sub, jI_mul, jI_neg, jI_lt, jI_le, jI_eq, jI_lt0, jI_0lt, jI_le0, jI_0le, jI_eq0, jI_in, jI_dv, i_mod, jI_cl, jm_n, jz_n, i_lit, i_c0, i_c1, Int.toNat_of_nonneg, Int.toNat_natCast, jrow_same, jrow_ne, jrow_jrow, sset_eq, sset_ne]
    rw [show e + (k : Int) + 1 = e + ((k + 1 : Nat) : Int) by omega])
  let R0 : Int → Int := sset (sset (J 353) 3 (tqS f n e)) 4 (tqS f n e)
  have l2 : ∀ Q : zO → zI → Prop, wz W 185 0 [.ref 353, .float 0] [] (jm (jrow J 353 (sset (J 353) 3 (tqS f n e)))) Q = wz W 185 75 [.ref 353, .int (jI (pk f n (tqS f n e)))] [.int (jI (tqK f n e)), .ref 353] (jm (jrow J 353 R0)) Q := by
    intro Q
    rw [sg_185_0]
    simp (disch := first | assumption | omega) only [zk_l, zk_r, Option.toList_some, Option.toList_none, List.cons_append, List.nil_append, zrokB, zrokB0, zrokB1, zrokJ0, zrokJ1, and_true, true_and, and_self, if_true, if_false, b2_0, b2_1, b2_not, ite_self, Int.add_zero, jI_nat, jI_add, jI_sub, jI_mul, jI_neg, jI_lt, jI_le, jI_eq, jI_lt0, jI_0lt, jI_le0, jI_0le, jI_eq0, jI_in, jI_dv, i_mod, jI_cl, jm_n, jz_n, i_lit, i_c0, i_c1, Int.toNat_of_nonneg, Int.toNat_natCast, jrow_same, jrow_ne, jrow_jrow, sset_eq, sset_ne]
    rw [sp_182 (f := f) (n := n) (by exact ht) (by rw [jrow_same, sset_ne (by decide)]; exact h2) (by omega) (by omega)]
    show zk Q _ (oI (pk f n (tqS f n e))) _ = _
    simp only [zk_l, zk_r, Option.toList_some, Option.toList_none, List.cons_append, List.nil_append, zrokB, zrokB0, zrokB1, zrokJ0, zrokJ1, and_true, true_and, and_self, if_true, if_false, b2_0, b2_1, b2_not, ite_self]
    have hne : pk f n (tqS f n e) ≠ 32 := by
      unfold pk
      split
      · exact tqS_32 e1 (by assumption)
      · omega
    rw [sg_185_8, if_neg (by rw [jI_eq (by omega) (by omega) (by omega) (by omega)]; exact hne)]
    simp (disch := first | assumption | omega) only [zk_l, zk_r, Option.toList_some, Option.toList_none, List.cons_append, List.nil_append, zrokB, zrokB0, zrokB1, zrokJ0, zrokJ1, and_true, true_and, and_self, if_true, if_false, b2_0, b2_1, b2_not, ite_self, Int.add_zero, jI_nat, jI_add, jI_sub, jI_mul, jI_neg, jI_lt, jI_le, jI_eq, jI_lt0, jI_0lt, jI_le0, jI_0le, jI_eq0, jI_in, jI_dv, i_mod, jI_cl, jm_n, jz_n, i_lit, i_c0, i_c1, Int.toNat_of_nonneg, Int.toNat_natCast, jrow_same, jrow_ne, jrow_jrow, sset_eq, sset_ne]
    rw [sp_182 (f := f) (n := n) (by exact ht) (by rw [jrow_same, sset_ne (by decide), sset_ne (by decide)]; exact h2) (by omega) (by omega)]
    show zk Q _ (oI (pk f n (tqS f n e))) _ = _
    simp only [zk_l, zk_r, Option.toList_some, Option.toList_none, List.cons_append, List.nil_append, zrokB, zrokB0, zrokB1, zrokJ0, zrokJ1, and_true, true_and, and_self, if_true, if_false, b2_0, b2_1, b2_not, ite_self]
    rw [sg_185_42, if0L (by omega) (by omega)]
    by_cases c : tqS f n e < n
    · have hb := (hf (tqS f n e) (by omega) c).2
      have epk : pk f n (tqS f n e) = f (tqS f n e) := by
        unfold pk
        rw [if_pos c]
      have eK : tqK f n e = tqO (f (tqS f n e)) := by
        unfold tqK
        rw [if_pos c]
      rw [epk, eK, if_pos (by omega), sp_183 (by omega) (by omega)]
      simp only [zk_l, zk_r, Option.toList_some, Option.toList_none, List.cons_append, List.nil_append, zrokB, zrokB0, zrokB1, zrokJ0, zrokJ1, and_true, true_and, and_self, if_true, if_false, b2_0, b2_1, b2_not, ite_self]
      have hO := tqO_b (f (tqS f n e))
      rw [sg_185_56]
      by_cases k1 : tqO (f (tqS f n e)) = 1
      · rw [decide_eq_true k1, if_neg (by decide), k1]
      · rw [decide_eq_false k1, if_pos (by decide), sp_184 (by omega) (by omega)]
        simp only [zk_l, zk_r, Option.toList_some, Option.toList_none, List.cons_append, List.nil_append, zrokB, zrokB0, zrokB1, zrokJ0, zrokJ1, and_true, true_and, and_self, if_true, if_false, b2_0, b2_1, b2_not, ite_self]
        rw [sg_185_67]
        by_cases k2 : tqO (f (tqS f n e)) = 2
        · rw [decide_eq_true k2, if_neg (by decide), k2]
        · rw [decide_eq_false k2, if_pos (by decide), show tqO (f (tqS f n e)) = 3 by omega]
    · have epk : pk f n (tqS f n e) = -1 := by
        unfold pk
        rw [if_neg c]
      have eK : tqK f n e = 0 := by
        unfold tqK
        rw [if_neg c]
      rw [epk, eK, if_neg (by decide)]
  let R : Int → Int := sset (sset R0 5 (tqK f n e)) 6 0
  have z0 : jrow J 353 (sset (J 353) 3 (e + ((0 : Nat) : Int))) = J := by
    rw [show e + ((0 : Nat) : Int) = J 353 3 by omega, sset_self, jrow_id]
  have hR : ∀ i, R i = if i = 6 then 0 else if i = 5 then tqK f n e else if i = 4 then tqS f n e else if i = 3 then tqS f n e else J 353 i := fun i => rfl
  have hR2 : R 2 = n := by rw [hR, if_neg (by decide), if_neg (by decide), if_neg (by decide), if_neg (by decide)]; exact h2
  have hR5 : R 5 = tqK f n e := by rw [hR, if_neg (by decide), if_pos rfl]
  have hR3 : R 3 = tqS f n e := by rw [hR, if_neg (by decide), if_neg (by decide), if_neg (by decide), if_pos rfl]
  have hR4 : R 4 = tqS f n e := by rw [hR, if_neg (by decide), if_neg (by decide), if_pos rfl]
  have hR6 : R 6 = 0 := by rw [hR, if_pos rfl]
  have hR7 : R 7 = -1 := by rw [hR, if_neg (by decide), if_neg (by decide), if_neg (by decide), if_neg (by decide)]; exact h7
  have hRo : ∀ i, (i < 3 ∨ 8 ≤ i) → R i = J 353 i := fun i hi => by rw [hR, if_neg (by omega), if_neg (by omega), if_neg (by omega), if_neg (by omega)]
  have l3 : ∀ Q : zO → zI → Prop, wz W 185 0 [.ref 353, .float 0] [] (jm J) Q = wz W 185 101 [.ref 353, .int (jI (pk f n (tqS f n e)))] [] (jm (jrow J 353 (if tqK f n e = 3 then sset R 3 (tqS f n e + 1) else R))) Q := by
    intro Q
    have a1 := l1 Q
    rw [z0] at a1
    rw [a1, l2, sg_185_75]
    simp (disch := first | assumption | omega) only [zk_l, zk_r, Option.toList_some, Option.toList_none, List.cons_append, List.nil_append, zrokB, zrokB0, zrokB1, zrokJ0, zrokJ1, and_true, true_and, and_self, if_true, if_false, b2_0, b2_1, b2_not, ite_self, Int.add_zero, jI_nat, jI_add, jI_sub, jI_mul, jI_neg, jI_lt, jI_le, jI_eq, jI_lt0, jI_0lt, jI_le0, jI_0le, jI_eq0, jI_in, jI_dv, i_mod, jI_cl, jm_n, jz_n, i_lit, i_c0, i_c1, Int.toNat_of_nonneg, Int.toNat_natCast, jrow_same, jrow_ne, jrow_jrow, sset_eq, sset_ne]
    show (if (tqK f n e) = 3 then wz W 185 101 _ _ (jm (jrow J 353 (sset R 3 (R 3 + 1)))) Q else wz W 185 101 _ _ (jm (jrow J 353 R)) Q) = _
    rw [hR3]
    by_cases c : tqK f n e = 3
    · rw [if_pos c, if_pos c]
    · rw [if_neg c, if_neg c]
  -- no digits to come
  have l4 : ∀ (J1 : zJ) (x : Int32) (Q : zO → zI → Prop), J1 353 5 = tqK f n e → tqK f n e ≠ 2 → wz W 185 136 [.ref 353, .int x] [] (jm J1) Q = Q oV (jm J1) := by
    intro J1 x Q q5 h
    rw [sg_185_136]
    simp (disch := first | assumption | omega) only [q5, zk_l, zk_r, Option.toList_some, Option.toList_none, List.cons_append, List.nil_append, zrokB, zrokB0, zrokB1, zrokJ0, zrokJ1, and_true, true_and, and_self, if_true, if_false, b2_0, b2_1, b2_not, ite_self, Int.add_zero, jI_nat, jI_add, jI_sub, jI_mul, jI_neg, jI_lt, jI_le, jI_eq, jI_lt0, jI_0lt, jI_le0, jI_0le, jI_eq0, jI_in, jI_dv, i_mod, jI_cl, jm_n, jz_n, i_lit, i_c0, i_c1, Int.toNat_of_nonneg, Int.toNat_natCast, jrow_same, jrow_ne, jrow_jrow, sset_eq, sset_ne]
    rw [if_neg h, sg_185_199]
  by_cases c3 : tqK f n e = 3
  · refine ⟨jrow J 353 (sset R 3 (tqS f n e + 1)), fun Q => ?_, ⟨?_, ?_, ?_, ?_, fun h => by omega, ?_⟩, frT_row (fun i hi => by rw [sset_ne (by omega)]; exact hRo i hi)⟩
    · have q5 : (jrow J 353 (sset R 3 (tqS f n e + 1))) 353 5 = tqK f n e := by rw [jrow_same, sset_ne (by decide)]; exact hR5
      rw [l3, if_pos c3, sg_185_101]
      simp (disch := first | assumption | omega) only [q5, zk_l, zk_r, Option.toList_some, Option.toList_none, List.cons_append, List.nil_append, zrokB, zrokB0, zrokB1, zrokJ0, zrokJ1, and_true, true_and, and_self, if_true, if_false, b2_0, b2_1, b2_not, ite_self, Int.add_zero, jI_nat, jI_add, jI_sub, jI_mul, jI_neg, jI_lt, jI_le, jI_eq, jI_lt0, jI_0lt, jI_le0, jI_0le, jI_eq0, jI_in, jI_dv, i_mod, jI_cl, jm_n, jz_n, i_lit, i_c0, i_c1, Int.toNat_of_nonneg, Int.toNat_natCast, jrow_same, jrow_ne, jrow_jrow, sset_eq, sset_ne]
      rw [if_neg (by omega), l4 _ _ _ q5 (by omega)]
    · rw [jrow_same, sset_ne (by decide)]; exact hR2
    · rw [jrow_same, sset_eq rfl, tqE_3 c3]
    · rw [jrow_same, sset_ne (by decide)]; exact hR4
    · rw [jrow_same, sset_ne (by decide)]; exact hR5
    · rw [jrow_same, sset_ne (by decide)]; exact hR7
  · have hEE : tqE f n e = tqS f n e + ((zfst (fun k => !decide (tqO (f (tqS f n e + (k : Int))) = tqK f n e)) (n - tqS f n e).toNat : Nat) : Int) := by
      unfold tqE
      rw [if_neg c3]
    have hend : tqO (pk f n (tqE f n e)) ≠ tqK f n e ∨ tqK f n e = 3 ∨ tqK f n e = 0 := by
      unfold pk
      by_cases c : tqE f n e < n
      · rw [if_pos c]
        have hy := zfst_yes (fun k : Nat => !decide (tqO (f (tqS f n e + (k : Int))) = tqK f n e)) (n - tqS f n e).toNat (by omega)
        refine Or.inl ?_
        rw [hEE]
        simpa using hy
      · rw [if_neg c]
        have h9 : tqO (-1) = 3 := by decide
        rw [h9]
        omega
    have hpE := pk_b (k := tqE f n e) ht (by omega)
    by_cases c1 : tqK f n e = 1
    · have hRs : sset R 3 (tqS f n e + ((0 : Nat) : Int)) = R := by rw [show tqS f n e + ((0 : Nat) : Int) = R 3 by omega, sset_self]
      have hEt : tqE f n e = tqS f n e + ((tqE f n e - tqS f n e).toNat : Int) := by omega
      have key : ∀ Q : zO → zI → Prop, wz W 185 101 [.ref 353, .int (jI (pk f n (tqS f n e)))] [] (jm (jrow J 353 (sset R 3 (tqS f n e + ((0 : Nat) : Int))))) Q = wz W 185 101 [.ref 353, .int (jI (pk f n (tqS f n e)))] [] (jm (jrow J 353 (sset R 3 (tqS f n e + ((tqE f n e - tqS f n e).toNat : Int))))) Q := fun Q => zloop (f := fun k : Nat => wz W 185 101 [.ref 353, .int (jI (pk f n (tqS f n e)))] [] (jm (jrow J 353 (sset R 3 (tqS f n e + (k : Int))))) Q) (tqE f n e - tqS f n e).toNat (fun k hk => by
        have hi := tqE_in c3 (i := tqS f n e + k) (by omega) (by omega)
        have hb := (hf (tqS f n e + k) (by omega) (by omega)).2
        try simp only
        rw [sg_185_101]
        simp (disch := first | assumption | omega) only [hR5, zk_l, zk_r, Option.toList_some, Option.toList_none, List.cons_append, List.nil_append, zrokB, zrokB0, zrokB1, zrokJ0, zrokJ1, and_true, true_and, and_self, if_true, if_false, b2_0, b2_1, b2_not, ite_self, Int.add_zero, jI_nat, jI_add, jI_sub, jI_mul, jI_neg, jI_lt, jI_le, jI_eq, jI_lt0, jI_0lt, jI_le0, jI_0le, jI_eq0, jI_in, jI_dv, i_mod, jI_cl, jm_n, jz_n, i_lit, i_c0, i_c1, Int.toNat_of_nonneg, Int.toNat_natCast, jrow_same, jrow_ne, jrow_jrow, sset_eq, sset_ne]
        rw [if_pos c1, sp_182 (f := f) (n := n) (by exact ht) (by rw [jrow_same, sset_ne (by decide)]; exact hR2) (by omega) (by omega), if_pos (by omega)]
        simp only [zk_l, zk_r, Option.toList_some, Option.toList_none, List.cons_append, List.nil_append, zrokB, zrokB0, zrokB1, zrokJ0, zrokJ1, and_true, true_and, and_self, if_true, if_false, b2_0, b2_1, b2_not, ite_self]
        rw [sg_185_117, sp_183 (by omega) (by omega)]
        simp only [zk_l, zk_r, Option.toList_some, Option.toList_none, List.cons_append, List.nil_append, zrokB, zrokB0, zrokB1, zrokJ0, zrokJ1, and_true, true_and, and_self, if_true, if_false, b2_0, b2_1, b2_not, ite_self]
        rw [sg_185_120, decide_eq_true (hi.trans c1), if_neg (by decide)]
        simp (disch := first | assumption | omega) only [sset_ss, zk_l, zk_r, Option.toList_some, Option.toList_none, List.cons_append, List.nil_append, zrokB, zrokB0, zrokB1, zrokJ0, zrokJ1, and_true, true_and, and_self, if_true, if_false, b2_0, b2_1, b2_not, ite_self, Int.add_zero, jI_nat, jI_add, jI_sub, jI_mul, jI_neg, jI_lt, jI_le, jI_eq, jI_lt0, jI_0lt, jI_le0, jI_0le, jI_eq0, jI_in, jI_dv, i_mod, jI_cl, jm_n, jz_n, i_lit, i_c0, i_c1, Int.toNat_of_nonneg, Int.toNat_natCast, jrow_same, jrow_ne, jrow_jrow, sset_eq, sset_ne]
        rw [show tqS f n e + (k : Int) + 1 = tqS f n e + ((k + 1 : Nat) : Int) by omega])
      have q5 : (jrow J 353 (sset R 3 (tqE f n e))) 353 5 = tqK f n e := by rw [jrow_same, sset_ne (by decide)]; exact hR5
      refine ⟨jrow J 353 (sset R 3 (tqE f n e)), fun Q => ?_, ⟨?_, ?_, ?_, ?_, fun h => by omega, ?_⟩, frT_row (fun i hi => by rw [sset_ne (by omega)]; exact hRo i hi)⟩
      · have a2 := key Q
        rw [hRs, ← hEt] at a2
        rw [l3, if_neg c3, a2, sg_185_101]
        simp (disch := first | assumption | omega) only [q5, zk_l, zk_r, Option.toList_some, Option.toList_none, List.cons_append, List.nil_append, zrokB, zrokB0, zrokB1, zrokJ0, zrokJ1, and_true, true_and, and_self, if_true, if_false, b2_0, b2_1, b2_not, ite_self, Int.add_zero, jI_nat, jI_add, jI_sub, jI_mul, jI_neg, jI_lt, jI_le, jI_eq, jI_lt0, jI_0lt, jI_le0, jI_0le, jI_eq0, jI_in, jI_dv, i_mod, jI_cl, jm_n, jz_n, i_lit, i_c0, i_c1, Int.toNat_of_nonneg, Int.toNat_natCast, jrow_same, jrow_ne, jrow_jrow, sset_eq, sset_ne]
        rw [if_pos c1, sp_182 (f := f) (n := n) (by exact ht) (by rw [jrow_same, sset_ne (by decide)]; exact hR2) (by omega) (by omega)]
        show zk Q _ (oI (pk f n (tqE f n e))) _ = _
        simp only [zk_l, zk_r, Option.toList_some, Option.toList_none, List.cons_append, List.nil_append, zrokB, zrokB0, zrokB1, zrokJ0, zrokJ1, and_true, true_and, and_self, if_true, if_false, b2_0, b2_1, b2_not, ite_self]
        rw [sg_185_117, sp_183 (by omega) (by omega)]
        simp only [zk_l, zk_r, Option.toList_some, Option.toList_none, List.cons_append, List.nil_append, zrokB, zrokB0, zrokB1, zrokJ0, zrokJ1, and_true, true_and, and_self, if_true, if_false, b2_0, b2_1, b2_not, ite_self]
        rw [sg_185_120, decide_eq_false (by omega), if_pos (by decide), l4 _ _ _ q5 (by omega)]
      · rw [jrow_same, sset_ne (by decide)]; exact hR2
      · rw [jrow_same, sset_eq rfl]
      · rw [jrow_same, sset_ne (by decide)]; exact hR4
      · rw [jrow_same, sset_ne (by decide)]; exact hR5
      · rw [jrow_same, sset_ne (by decide)]; exact hR7
    · by_cases c2 : tqK f n e = 2
      · have hd := tq_dig c2
        have hRs : sset (sset R 6 (min 100000 (vlL f (tqS f n e) 0))) 3 (tqS f n e + ((0 : Nat) : Int)) = R := by
          have z : min 100000 (vlL f (tqS f n e) 0) = R 6 := by
            rw [hR6]
            rfl
          rw [z, sset_self, show tqS f n e + ((0 : Nat) : Int) = R 3 by omega, sset_self]
        have hEt : tqE f n e = tqS f n e + ((tqE f n e - tqS f n e).toNat : Int) := by omega
        have key : ∀ Q : zO → zI → Prop, wz W 185 136 [.ref 353, .int (jI (pk f n (tqS f n e)))] [] (jm (jrow J 353 (sset (sset R 6 (min 100000 (vlL f (tqS f n e) 0))) 3 (tqS f n e + ((0 : Nat) : Int))))) Q = wz W 185 136 [.ref 353, .int (jI (pk f n (tqS f n e)))] [] (jm (jrow J 353 (sset (sset R 6 (min 100000 (vlL f (tqS f n e) (tqE f n e - tqS f n e).toNat))) 3 (tqS f n e + ((tqE f n e - tqS f n e).toNat : Int))))) Q := fun Q => zloop (f := fun k : Nat => wz W 185 136 [.ref 353, .int (jI (pk f n (tqS f n e)))] [] (jm (jrow J 353 (sset (sset R 6 (min 100000 (vlL f (tqS f n e) k))) 3 (tqS f n e + (k : Int))))) Q) (tqE f n e - tqS f n e).toNat (fun k hk => by
          have hi := tqE_in c3 (i := tqS f n e + k) (by omega) (by omega)
          have hb := (hf (tqS f n e + k) (by omega) (by omega)).2
          have hv := (vlL_b (f := f) (s := tqS f n e) k (fun j hj => hd j (by omega))).1
          obtain ⟨d1, d2⟩ := hd k hk
          try simp only
          rw [sg_185_136]
          simp (disch := first | assumption | omega) only [hR5, zk_l, zk_r, Option.toList_some, Option.toList_none, List.cons_append, List.nil_append, zrokB, zrokB0, zrokB1, zrokJ0, zrokJ1, and_true, true_and, and_self, if_true, if_false, b2_0, b2_1, b2_not, ite_self, Int.add_zero, jI_nat, jI_add, jI_sub, jI_mul, jI_neg, jI_lt, jI_le, jI_eq, jI_lt0, jI_0lt, jI_le0, jI_0le, jI_eq0, jI_in, jI_dv, i_mod, jI_cl, jm_n, jz_n, i_lit, i_c0, i_c1, Int.toNat_of_nonneg, Int.toNat_natCast, jrow_same, jrow_ne, jrow_jrow, sset_eq, sset_ne]
          rw [if_pos c2, sp_182 (f := f) (n := n) (by exact ht) (by rw [jrow_same, sset_ne (by decide), sset_ne (by decide)]; exact hR2) (by omega) (by omega), if_pos (by omega)]
          simp only [zk_l, zk_r, Option.toList_some, Option.toList_none, List.cons_append, List.nil_append, zrokB, zrokB0, zrokB1, zrokJ0, zrokJ1, and_true, true_and, and_self, if_true, if_false, b2_0, b2_1, b2_not, ite_self]
          rw [sg_185_152, sp_184 (by omega) (by omega)]
          simp only [zk_l, zk_r, Option.toList_some, Option.toList_none, List.cons_append, List.nil_append, zrokB, zrokB0, zrokB1, zrokJ0, zrokJ1, and_true, true_and, and_self, if_true, if_false, b2_0, b2_1, b2_not, ite_self]
          rw [sg_185_155, decide_eq_true (hi.trans c2), if_neg (by decide)]
          simp (disch := first | assumption | omega) only [zk_l, zk_r, Option.toList_some, Option.toList_none, List.cons_append, List.nil_append, zrokB, zrokB0, zrokB1, zrokJ0, zrokJ1, and_true, true_and, and_self, if_true, if_false, b2_0, b2_1, b2_not, ite_self, Int.add_zero, jI_nat, jI_add, jI_sub, jI_mul, jI_neg, jI_lt, jI_le, jI_eq, jI_lt0, jI_0lt, jI_le0, jI_0le, jI_eq0, jI_in, jI_dv, i_mod, jI_cl, jm_n, jz_n, i_lit, i_c0, i_c1, Int.toNat_of_nonneg, Int.toNat_natCast, jrow_same, jrow_ne, jrow_jrow, sset_eq, sset_ne]
          rw [sp_182 (f := f) (n := n) (by exact ht) (by rw [jrow_same, sset_ne (by decide), sset_ne (by decide)]; exact hR2) (by omega) (by omega), if_pos (by omega)]
          simp only [zk_l, zk_r, Option.toList_some, Option.toList_none, List.cons_append, List.nil_append, zrokB, zrokB0, zrokB1, zrokJ0, zrokJ1, and_true, true_and, and_self, if_true, if_false, b2_0, b2_1, b2_not, ite_self]
          rw [sg_185_176]
          have em : jmin (jI 100000) (jI (10 * min 100000 (vlL f (tqS f n e) k) + f (tqS f n e + (k : Int)) - 48)) = jI (min 100000 (vlL f (tqS f n e) (k + 1))) := by
            rw [jmin_j (by decide) (by decide) (by omega) (by omega)]
            congr 1
            show _ = min 100000 (10 * vlL f (tqS f n e) k + (f (tqS f n e + (k : Int)) - 48))
            omega
          simp (disch := first | assumption | omega) only [em, zk_l, zk_r, Option.toList_some, Option.toList_none, List.cons_append, List.nil_append, zrokB, zrokB0, zrokB1, zrokJ0, zrokJ1, and_true, true_and, and_self, if_true, if_false, b2_0, b2_1, b2_not, ite_self, Int.add_zero, jI_nat, jI_add, jI_sub, jI_mul, jI_neg, jI_lt, jI_le, jI_eq, jI_lt0, jI_0lt, jI_le0, jI_0le, jI_eq0, jI_in, jI_dv, i_mod, jI_cl, jm_n, jz_n, i_lit, i_c0, i_c1, Int.toNat_of_nonneg, Int.toNat_natCast, jrow_same, jrow_ne, jrow_jrow, sset_eq, sset_ne]
          rw [sset_4 (by decide), show tqS f n e + (k : Int) + 1 = tqS f n e + ((k + 1 : Nat) : Int) by omega])
        refine ⟨jrow J 353 (sset (sset R 6 (min 100000 (tqV f n e))) 3 (tqE f n e)), fun Q => ?_, ⟨?_, ?_, ?_, ?_, fun h => ?_, ?_⟩, frT_row (fun i hi => by rw [sset_ne (by omega), sset_ne (by omega)]; exact hRo i hi)⟩
        · have a2 := key Q
          rw [hRs, ← hEt] at a2
          have q5 : (jrow J 353 (sset (sset R 6 (min 100000 (tqV f n e))) 3 (tqE f n e))) 353 5 = tqK f n e := by rw [jrow_same, sset_ne (by decide), sset_ne (by decide)]; exact hR5
          rw [l3, if_neg c3, sg_185_101]
          simp (disch := first | assumption | omega) only [hR5, zk_l, zk_r, Option.toList_some, Option.toList_none, List.cons_append, List.nil_append, zrokB, zrokB0, zrokB1, zrokJ0, zrokJ1, and_true, true_and, and_self, if_true, if_false, b2_0, b2_1, b2_not, ite_self, Int.add_zero, jI_nat, jI_add, jI_sub, jI_mul, jI_neg, jI_lt, jI_le, jI_eq, jI_lt0, jI_0lt, jI_le0, jI_0le, jI_eq0, jI_in, jI_dv, i_mod, jI_cl, jm_n, jz_n, i_lit, i_c0, i_c1, Int.toNat_of_nonneg, Int.toNat_natCast, jrow_same, jrow_ne, jrow_jrow, sset_eq, sset_ne]
          rw [if_neg (by omega), a2]
          show wz W 185 136 _ _ (jm (jrow J 353 (sset (sset R 6 (min 100000 (tqV f n e))) 3 (tqE f n e)))) Q = _
          rw [sg_185_136]
          simp (disch := first | assumption | omega) only [q5, zk_l, zk_r, Option.toList_some, Option.toList_none, List.cons_append, List.nil_append, zrokB, zrokB0, zrokB1, zrokJ0, zrokJ1, and_true, true_and, and_self, if_true, if_false, b2_0, b2_1, b2_not, ite_self, Int.add_zero, jI_nat, jI_add, jI_sub, jI_mul, jI_neg, jI_lt, jI_le, jI_eq, jI_lt0, jI_0lt, jI_le0, jI_0le, jI_eq0, jI_in, jI_dv, i_mod, jI_cl, jm_n, jz_n, i_lit, i_c0, i_c1, Int.toNat_of_nonneg, Int.toNat_natCast, jrow_same, jrow_ne, jrow_jrow, sset_eq, sset_ne]
          rw [if_pos c2, sp_182 (f := f) (n := n) (by exact ht) (by rw [jrow_same, sset_ne (by decide), sset_ne (by decide)]; exact hR2) (by omega) (by omega)]
          show zk Q _ (oI (pk f n (tqE f n e))) _ = _
          simp only [zk_l, zk_r, Option.toList_some, Option.toList_none, List.cons_append, List.nil_append, zrokB, zrokB0, zrokB1, zrokJ0, zrokJ1, and_true, true_and, and_self, if_true, if_false, b2_0, b2_1, b2_not, ite_self]
          rw [sg_185_152, sp_184 (by omega) (by omega)]
          simp only [zk_l, zk_r, Option.toList_some, Option.toList_none, List.cons_append, List.nil_append, zrokB, zrokB0, zrokB1, zrokJ0, zrokJ1, and_true, true_and, and_self, if_true, if_false, b2_0, b2_1, b2_not, ite_self]
          rw [sg_185_155, decide_eq_false (by omega), if_pos (by decide), sg_185_199]
        · rw [jrow_same, sset_ne (by decide), sset_ne (by decide)]; exact hR2
        · rw [jrow_same, sset_eq rfl]
        · rw [jrow_same, sset_ne (by decide), sset_ne (by decide)]; exact hR4
        · rw [jrow_same, sset_ne (by decide), sset_ne (by decide)]; exact hR5
        · rw [jrow_same, sset_ne (by decide), sset_eq rfl]
        · rw [jrow_same, sset_ne (by decide), sset_ne (by decide)]; exact hR7
      · have c0 : tqK f n e = 0 := by omega
        have eE : tqE f n e = tqS f n e := by
          have := tqK_0 c0 e1
          omega
        refine ⟨jrow J 353 R, fun Q => ?_, ⟨?_, ?_, ?_, ?_, fun h => by omega, ?_⟩, frT_row (fun i hi => hRo i hi)⟩
        · have q5 : (jrow J 353 R) 353 5 = tqK f n e := by rw [jrow_same]; exact hR5
          rw [l3, if_neg c3, sg_185_101]
          simp (disch := first | assumption | omega) only [q5, zk_l, zk_r, Option.toList_some, Option.toList_none, List.cons_append, List.nil_append, zrokB, zrokB0, zrokB1, zrokJ0, zrokJ1, and_true, true_and, and_self, if_true, if_false, b2_0, b2_1, b2_not, ite_self, Int.add_zero, jI_nat, jI_add, jI_sub, jI_mul, jI_neg, jI_lt, jI_le, jI_eq, jI_lt0, jI_0lt, jI_le0, jI_0le, jI_eq0, jI_in, jI_dv, i_mod, jI_cl, jm_n, jz_n, i_lit, i_c0, i_c1, Int.toNat_of_nonneg, Int.toNat_natCast, jrow_same, jrow_ne, jrow_jrow, sset_eq, sset_ne]
          rw [if_neg (by omega), l4 _ _ _ q5 (by omega)]
        · rw [jrow_same]; exact hR2
        · rw [jrow_same, hR3, eE]
        · rw [jrow_same]; exact hR4
        · rw [jrow_same]; exact hR5
        · rw [jrow_same]; exact hR7
/-! fail, isGood, isSign, isWord -/
theorem sp_186g (hp : PR f n J e) : wz W 186 0 [.ref 353] [] (jm J) Q = Q oV (jm (jrow J 353 (sset (J 353) 7 (tqS f n e)))) := by
  obtain ⟨p2, p3, p4, p5, p6, p7⟩ := hp
  rw [sg_186_0]
  simp (disch := first | assumption | omega) only [p7, p4, zk_l, zk_r, Option.toList_some, Option.toList_none, List.cons_append, List.nil_append, zrokB, zrokB0, zrokB1, zrokJ0, zrokJ1, and_true, true_and, and_self, if_true, if_false, b2_0, b2_1, b2_not, ite_self, Int.add_zero, jI_nat, jI_add, jI_sub, jI_mul, jI_neg, jI_lt, jI_le, jI_eq, jI_lt0, jI_0lt, jI_le0, jI_0le, jI_eq0, jI_in, jI_dv, i_mod, jI_cl, jm_n, jz_n, i_lit, i_c0, i_c1, Int.toNat_of_nonneg, Int.toNat_natCast, jrow_same, jrow_ne, jrow_jrow, sset_eq, sset_ne]
  rw [if_neg (by decide), sg_186_19]
  simp (disch := first | assumption | omega) only [zk_l, zk_r, Option.toList_some, Option.toList_none, List.cons_append, List.nil_append, zrokB, zrokB0, zrokB1, zrokJ0, zrokJ1, and_true, true_and, and_self, if_true, if_false, b2_0, b2_1, b2_not, ite_self, Int.add_zero, jI_nat, jI_add, jI_sub, jI_mul, jI_neg, jI_lt, jI_le, jI_eq, jI_lt0, jI_0lt, jI_le0, jI_0le, jI_eq0, jI_in, jI_dv, i_mod, jI_cl, jm_n, jz_n, i_lit, i_c0, i_c1, Int.toNat_of_nonneg, Int.toNat_natCast, jrow_same, jrow_ne, jrow_jrow, sset_eq, sset_ne]
theorem sp_186b (h : 0 ≤ J 353 7) (h9 : J 353 7 ≤ 900) : wz W 186 0 [.ref 353] [] (jm J) Q = Q oV (jm J) := by
  rw [sg_186_0]
  simp (disch := first | assumption | omega) only [zk_l, zk_r, Option.toList_some, Option.toList_none, List.cons_append, List.nil_append, zrokB, zrokB0, zrokB1, zrokJ0, zrokJ1, and_true, true_and, and_self, if_true, if_false, b2_0, b2_1, b2_not, ite_self, Int.add_zero, jI_nat, jI_add, jI_sub, jI_mul, jI_neg, jI_lt, jI_le, jI_eq, jI_lt0, jI_0lt, jI_le0, jI_0le, jI_eq0, jI_in, jI_dv, i_mod, jI_cl, jm_n, jz_n, i_lit, i_c0, i_c1, Int.toNat_of_nonneg, Int.toNat_natCast, jrow_same, jrow_ne, jrow_jrow, sset_eq, sset_ne]
  rw [if_pos h, sg_186_19]
  simp (disch := first | assumption | omega) only [zk_l, zk_r, Option.toList_some, Option.toList_none, List.cons_append, List.nil_append, zrokB, zrokB0, zrokB1, zrokJ0, zrokJ1, and_true, true_and, and_self, if_true, if_false, b2_0, b2_1, b2_not, ite_self, Int.add_zero, jI_nat, jI_add, jI_sub, jI_mul, jI_neg, jI_lt, jI_le, jI_eq, jI_lt0, jI_0lt, jI_le0, jI_0le, jI_eq0, jI_in, jI_dv, i_mod, jI_cl, jm_n, jz_n, i_lit, i_c0, i_c1, Int.toNat_of_nonneg, Int.toNat_natCast, jrow_same, jrow_ne, jrow_jrow, sset_eq, sset_ne]
  rw [sset_self, jrow_id]
theorem sp_187g (h : J 353 7 = -1) : wz W 187 0 [.ref 353] [] (jm J) Q = Q (oB true) (jm J) := by
  rw [sg_187_0]
  simp (disch := first | assumption | omega) only [h, zk_l, zk_r, Option.toList_some, Option.toList_none, List.cons_append, List.nil_append, zrokB, zrokB0, zrokB1, zrokJ0, zrokJ1, and_true, true_and, and_self, if_true, if_false, b2_0, b2_1, b2_not, ite_self, Int.add_zero, jI_nat, jI_add, jI_sub, jI_mul, jI_neg, jI_lt, jI_le, jI_eq, jI_lt0, jI_0lt, jI_le0, jI_0le, jI_eq0, jI_in, jI_dv, i_mod, jI_cl, jm_n, jz_n, i_lit, i_c0, i_c1, Int.toNat_of_nonneg, Int.toNat_natCast, jrow_same, jrow_ne, jrow_jrow, sset_eq, sset_ne]
  rw [if_neg (by decide), sg_187_12]
  simp only [zk_l, zk_r, Option.toList_some, Option.toList_none, List.cons_append, List.nil_append, zrokB, zrokB0, zrokB1, zrokJ0, zrokJ1, and_true, true_and, and_self, if_true, if_false, b2_0, b2_1, b2_not, ite_self]
  rfl
theorem sp_187b (h : 0 ≤ J 353 7) (h9 : J 353 7 ≤ 900) : wz W 187 0 [.ref 353] [] (jm J) Q = Q (oB false) (jm J) := by
  rw [sg_187_0]
  simp (disch := first | assumption | omega) only [zk_l, zk_r, Option.toList_some, Option.toList_none, List.cons_append, List.nil_append, zrokB, zrokB0, zrokB1, zrokJ0, zrokJ1, and_true, true_and, and_self, if_true, if_false, b2_0, b2_1, b2_not, ite_self, Int.add_zero, jI_nat, jI_add, jI_sub, jI_mul, jI_neg, jI_lt, jI_le, jI_eq, jI_lt0, jI_0lt, jI_le0, jI_0le, jI_eq0, jI_in, jI_dv, i_mod, jI_cl, jm_n, jz_n, i_lit, i_c0, i_c1, Int.toNat_of_nonneg, Int.toNat_natCast, jrow_same, jrow_ne, jrow_jrow, sset_eq, sset_ne]
  rw [if_pos h, sg_187_12]
  simp only [zk_l, zk_r, Option.toList_some, Option.toList_none, List.cons_append, List.nil_append, zrokB, zrokB0, zrokB1, zrokJ0, zrokJ1, and_true, true_and, and_self, if_true, if_false, b2_0, b2_1, b2_not, ite_self]
  rfl
theorem sp_188g {c : Int} (ht : txt (J 354) f n) (hp : PR f n J e) (e0 : 0 ≤ e) (e1 : e ≤ n) (c0 : 0 ≤ c) (c1 : c ≤ 255) : wz W 188 0 [.ref 353, .int (jI c)] [] (jm J) Q = Q (oB (tqG f n e c)) (jm J) := by
  have hp' := hp
  obtain ⟨p2, p3, p4, p5, p6, p7⟩ := hp'
  have n9 := ht.2.1
  have hS := tqS_b (f := f) e1
  have hK := tqK_b f n e
  rw [sg_188_0, sp_187g p7]
  simp only [zk_l, zk_r, Option.toList_some, Option.toList_none, List.cons_append, List.nil_append, zrokB, zrokB0, zrokB1, zrokJ0, zrokJ1, and_true, true_and, and_self, if_true, if_false, b2_0, b2_1, b2_not, ite_self]
  rw [sg_188_4, if_neg (by decide)]
  unfold tqG
  have q5 : jm J 353 5 = jI (tqK f n e) := by
    show jI (J 353 5) = _
    rw [p5]
  have q4 : jm J 353 4 = jI (tqS f n e) := by
    show jI (J 353 4) = _
    rw [p4]
  rw [q5, q4, ifE (by omega) (by omega) (by omega) (by omega)]
  by_cases h : tqK f n e = 3
  · have hlt := tqK_lt (f := f) (n := n) (e := e) (by omega)
    obtain ⟨hv, hb⟩ := ht.2.2 (tqS f n e) (by omega) (by omega)
    rw [if_pos h, decide_eq_true h, Bool.true_and]
    simp (disch := first | assumption | omega) only [hv, zk_l, zk_r, Option.toList_some, Option.toList_none, List.cons_append, List.nil_append, zrokB, zrokB0, zrokB1, zrokJ0, zrokJ1, and_true, true_and, and_self, if_true, if_false, b2_0, b2_1, b2_not, ite_self, Int.add_zero, jI_nat, jI_add, jI_sub, jI_mul, jI_neg, jI_lt, jI_le, jI_eq, jI_lt0, jI_0lt, jI_le0, jI_0le, jI_eq0, jI_in, jI_dv, i_mod, jI_cl, jm_n, jz_n, i_lit, i_c0, i_c1, Int.toNat_of_nonneg, Int.toNat_natCast, jrow_same, jrow_ne, jrow_jrow, sset_eq, sset_ne]
    by_cases q : f (tqS f n e) = c
    · rw [if_pos q, sg_188_33, decide_eq_true q]
      simp only [zk_l, zk_r, Option.toList_some, Option.toList_none, List.cons_append, List.nil_append, zrokB, zrokB0, zrokB1, zrokJ0, zrokJ1, and_true, true_and, and_self, if_true, if_false, b2_0, b2_1, b2_not, ite_self]
      rfl
    · rw [if_neg q, sg_188_32, sg_188_33, decide_eq_false q]
      simp only [zk_l, zk_r, Option.toList_some, Option.toList_none, List.cons_append, List.nil_append, zrokB, zrokB0, zrokB1, zrokJ0, zrokJ1, and_true, true_and, and_self, if_true, if_false, b2_0, b2_1, b2_not, ite_self]
      rfl
  · rw [if_neg h, sg_188_32, sg_188_33, decide_eq_false h, Bool.false_and]
    simp only [zk_l, zk_r, Option.toList_some, Option.toList_none, List.cons_append, List.nil_append, zrokB, zrokB0, zrokB1, zrokJ0, zrokJ1, and_true, true_and, and_self, if_true, if_false, b2_0, b2_1, b2_not, ite_self]
    rfl
theorem sp_188b {x : Int32} (h : 0 ≤ J 353 7) (h9 : J 353 7 ≤ 900) : wz W 188 0 [.ref 353, .int x] [] (jm J) Q = Q (oB false) (jm J) := by
  rw [sg_188_0, sp_187b h h9]
  simp only [zk_l, zk_r, Option.toList_some, Option.toList_none, List.cons_append, List.nil_append, zrokB, zrokB0, zrokB1, zrokJ0, zrokJ1, and_true, true_and, and_self, if_true, if_false, b2_0, b2_1, b2_not, ite_self]
  rw [sg_188_4, if_pos (by decide), sg_188_32, sg_188_33]
  simp only [zk_l, zk_r, Option.toList_some, Option.toList_none, List.cons_append, List.nil_append, zrokB, zrokB0, zrokB1, zrokJ0, zrokJ1, and_true, true_and, and_self, if_true, if_false, b2_0, b2_1, b2_not, ite_self]
  rfl
theorem sp_189 {i : Nat} (hi : i < 7) (ht : txt (J 354) f n) (hp : PR f n J e) (e0 : 0 ≤ e) (e1 : e ≤ n) : wz W 189 0 [.ref 353, .ref (2000000 + i), .float 0, .float 0] [] (jm J) Q = Q (oB (tqW f n e i)) (jm J) := by
  have hp' := hp
  obtain ⟨p2, p3, p4, p5, p6, p7⟩ := hp'
  have n9 := ht.2.1
  have hS := tqS_b (f := f) e1
  have hE := tqE_b (f := f) e1
  have hK := tqK_b f n e
  have hlen : (wdL i).length ≤ 8 := (gd_wd i hi).1
  have hfin : wz W 189 36 [.ref 353, .ref (2000000 + i), .float 0, .float 0] [.int (jI 0)] (jm J) Q = Q (oB false) (jm J) := by
    rw [sg_189_36 (hp1 := hi), sg_189_39 (hp1 := hi), if_pos (by decide), sg_189_82 (hp1 := hi)]
    simp only [zk_l, zk_r, Option.toList_some, Option.toList_none, List.cons_append, List.nil_append, zrokB, zrokB0, zrokB1, zrokJ0, zrokJ1, and_true, true_and, and_self, if_true, if_false, b2_0, b2_1, b2_not, ite_self]
    rfl
  rw [sg_189_0 (hp1 := hi), sp_187g p7]
  simp only [zk_l, zk_r, Option.toList_some, Option.toList_none, List.cons_append, List.nil_append, zrokB, zrokB0, zrokB1, zrokJ0, zrokJ1, and_true, true_and, and_self, if_true, if_false, b2_0, b2_1, b2_not, ite_self]
  rw [sg_189_4 (hp1 := hi), if_neg (by decide)]
  simp (disch := first | assumption | omega) only [p3, p4, p5, zk_l, zk_r, Option.toList_some, Option.toList_none, List.cons_append, List.nil_append, zrokB, zrokB0, zrokB1, zrokJ0, zrokJ1, and_true, true_and, and_self, if_true, if_false, b2_0, b2_1, b2_not, ite_self, Int.add_zero, jI_nat, jI_add, jI_sub, jI_mul, jI_neg, jI_lt, jI_le, jI_eq, jI_lt0, jI_0lt, jI_le0, jI_0le, jI_eq0, jI_in, jI_dv, i_mod, jI_cl, jm_n, jz_n, i_lit, i_c0, i_c1, Int.toNat_of_nonneg, Int.toNat_natCast, jrow_same, jrow_ne, jrow_jrow, sset_eq, sset_ne]
  unfold tqW
  by_cases h : tqK f n e = 1
  · rw [if_pos h, sp_332 hi, decide_eq_true h, Bool.true_and]
    simp only [zk_l, zk_r, Option.toList_some, Option.toList_none, List.cons_append, List.nil_append, zrokB, zrokB0, zrokB1, zrokJ0, zrokJ1, and_true, true_and, and_self, if_true, if_false, b2_0, b2_1, b2_not, ite_self]
    rw [sg_189_28 (hp1 := hi), ifE (by omega) (by omega) (by omega) (by omega)]
    by_cases q : tqE f n e - tqS f n e = ((wdL i).length : Int)
    · rw [if_pos q, decide_eq_true q, Bool.true_and, sg_189_36 (hp1 := hi)]
      have key := zloop_all (f := fun (j : Nat) (_ : Unit) => wz W 189 39 [.ref 353, .ref (2000000 + i), .int (jI 1), .int (jI j)] [] (jm J) Q) (A := Q (oI 0) (jm J)) (B := Q (oI 1) (jm J)) (fun j => decide (jI (f (tqS f n e + (j : Int))) = (wdL i).getD j 0)) (wdL i).length (fun _ v => v) () (fun j v hj hc => by
          have hc : jI (f (tqS f n e + (j : Int))) = (wdL i).getD j 0 := by simpa using hc
          have hv := (ht.2.2 (tqS f n e + j) (by omega) (by omega)).1
          try simp only
          rw [sg_189_39 (hp1 := hi), if_neg (by decide), sp_332 hi]
          simp only [zk_l, zk_r, Option.toList_some, Option.toList_none, List.cons_append, List.nil_append, zrokB, zrokB0, zrokB1, zrokJ0, zrokJ1, and_true, true_and, and_self, if_true, if_false, b2_0, b2_1, b2_not, ite_self]
          rw [sg_189_48 (hp1 := hi), if_neg (by rw [jI_le (by omega) (by omega) (by omega) (by omega)]; omega)]
          simp (disch := first | assumption | omega) only [p4, hv, zk_l, zk_r, Option.toList_some, Option.toList_none, List.cons_append, List.nil_append, zrokB, zrokB0, zrokB1, zrokJ0, zrokJ1, and_true, true_and, and_self, if_true, if_false, b2_0, b2_1, b2_not, ite_self, Int.add_zero, jI_nat, jI_add, jI_sub, jI_mul, jI_neg, jI_lt, jI_le, jI_eq, jI_lt0, jI_0lt, jI_le0, jI_0le, jI_eq0, jI_in, jI_dv, i_mod, jI_cl, jm_n, jz_n, i_lit, i_c0, i_c1, Int.toNat_of_nonneg, Int.toNat_natCast, jrow_same, jrow_ne, jrow_jrow, sset_eq, sset_ne]
          rw [sp_333 hi hj]
          simp only [zk_l, zk_r, Option.toList_some, Option.toList_none, List.cons_append, List.nil_append, zrokB, zrokB0, zrokB1, zrokJ0, zrokJ1, and_true, true_and, and_self, if_true, if_false, b2_0, b2_1, b2_not, ite_self]
          rw [sg_189_67 (hp1 := hi), if_pos hc, sg_189_75 (hp1 := hi), jI_add]
          rfl) (fun j v hj hc => by
          have hc : ¬ jI (f (tqS f n e + (j : Int))) = (wdL i).getD j 0 := by simpa using hc
          have hv := (ht.2.2 (tqS f n e + j) (by omega) (by omega)).1
          try simp only
          rw [sg_189_39 (hp1 := hi), if_neg (by decide), sp_332 hi]
          simp only [zk_l, zk_r, Option.toList_some, Option.toList_none, List.cons_append, List.nil_append, zrokB, zrokB0, zrokB1, zrokJ0, zrokJ1, and_true, true_and, and_self, if_true, if_false, b2_0, b2_1, b2_not, ite_self]
          rw [sg_189_48 (hp1 := hi), if_neg (by rw [jI_le (by omega) (by omega) (by omega) (by omega)]; omega)]
          simp (disch := first | assumption | omega) only [p4, hv, zk_l, zk_r, Option.toList_some, Option.toList_none, List.cons_append, List.nil_append, zrokB, zrokB0, zrokB1, zrokJ0, zrokJ1, and_true, true_and, and_self, if_true, if_false, b2_0, b2_1, b2_not, ite_self, Int.add_zero, jI_nat, jI_add, jI_sub, jI_mul, jI_neg, jI_lt, jI_le, jI_eq, jI_lt0, jI_0lt, jI_le0, jI_0le, jI_eq0, jI_in, jI_dv, i_mod, jI_cl, jm_n, jz_n, i_lit, i_c0, i_c1, Int.toNat_of_nonneg, Int.toNat_natCast, jrow_same, jrow_ne, jrow_jrow, sset_eq, sset_ne]
          rw [sp_333 hi hj]
          simp only [zk_l, zk_r, Option.toList_some, Option.toList_none, List.cons_append, List.nil_append, zrokB, zrokB0, zrokB1, zrokJ0, zrokJ1, and_true, true_and, and_self, if_true, if_false, b2_0, b2_1, b2_not, ite_self]
          rw [sg_189_67 (hp1 := hi), if_neg hc, sg_189_75 (hp1 := hi), sg_189_39 (hp1 := hi), if_pos (by decide), sg_189_82 (hp1 := hi)]
          simp only [zk_l, zk_r, Option.toList_some, Option.toList_none, List.cons_append, List.nil_append, zrokB, zrokB0, zrokB1, zrokJ0, zrokJ1, and_true, true_and, and_self, if_true, if_false, b2_0, b2_1, b2_not, ite_self]) (fun v => by
          try simp only
          rw [sg_189_39 (hp1 := hi), if_neg (by decide), sp_332 hi]
          simp only [zk_l, zk_r, Option.toList_some, Option.toList_none, List.cons_append, List.nil_append, zrokB, zrokB0, zrokB1, zrokJ0, zrokJ1, and_true, true_and, and_self, if_true, if_false, b2_0, b2_1, b2_not, ite_self]
          rw [sg_189_48 (hp1 := hi), if_pos (Int32.le_refl _), sg_189_82 (hp1 := hi)]
          simp only [zk_l, zk_r, Option.toList_some, Option.toList_none, List.cons_append, List.nil_append, zrokB, zrokB0, zrokB1, zrokJ0, zrokJ1, and_true, true_and, and_self, if_true, if_false, b2_0, b2_1, b2_not, ite_self])
      refine Eq.trans key ?_
      cases zAllB (fun j => decide (jI (f (tqS f n e + (j : Int))) = (wdL i).getD j 0)) (wdL i).length <;> rfl
    · rw [if_neg q, sg_189_35 (hp1 := hi), hfin, decide_eq_false q, Bool.false_and]
  · rw [if_neg h, sg_189_35 (hp1 := hi), hfin, decide_eq_false h, Bool.false_and]
/-! numbers -/
def rRs (f : Int → Int) (n : Int) (T' : zJ) (o : zO) (r : Int ⊕ (Int × Int)) : Prop := match r with
  | .inl p => o = oI 0 ∧ T' 353 7 = p
  | .inr (v, e') => o = oI v ∧ PR f n T' e'
theorem sp_190g {sg lo hi : Int} (ht : txt (J 354) f n) (hp : PR f n J e) (e0 : 0 ≤ e) (e1 : e ≤ n) (l0 : -100000 ≤ lo) (l1 : lo ≤ 100000) (h0 : -100000 ≤ hi) (h1 : hi ≤ 100000) (hs : sg = 1 ∨ sg = -1) :
    ∃ o J', (∀ Q : zO → zI → Prop, wz W 190 0 [.ref 353, .int (jI sg), .int (jI lo), .int (jI hi), .float 0] [] (jm J) Q = Q o (jm J')) ∧ frT J J' ∧ rRs f n J' o (pSg f n sg lo hi e) := by
  have hp' := hp
  obtain ⟨p2, p3, p4, p5, p6, p7⟩ := hp'
  have n9 := ht.2.1
  have hS := tqS_b (f := f) e1
  have hE := tqE_b (f := f) e1
  have hK := tqK_b f n e
  have hbad : ∀ Q : zO → zI → Prop, wz W 190 42 [.ref 353, .int (jI sg), .int (jI lo), .int (jI hi), .float 0] [] (jm J) Q = Q (oI 0) (jm (jrow J 353 (sset (J 353) 7 (tqS f n e)))) := by
    intro Q
    rw [sg_190_42, sp_186g hp]
    simp only [zk_l, zk_r, Option.toList_some, Option.toList_none, List.cons_append, List.nil_append, zrokB, zrokB0, zrokB1, zrokJ0, zrokJ1, and_true, true_and, and_self, if_true, if_false, b2_0, b2_1, b2_not, ite_self]
    rw [sg_190_46]
  have fbad : frT J (jrow J 353 (sset (J 353) 7 (tqS f n e))) := frT_row (fun i hi => sset_ne (by omega))
  have vbad : (jrow J 353 (sset (J 353) 7 (tqS f n e))) 353 7 = tqS f n e := by rw [jrow_same, sset_eq rfl]
  by_cases h : tqK f n e = 2 ∧ tqE f n e - tqS f n e ≤ 4
  · have hV := tqV_b h.1 h.2
    have q6 : J 353 6 = tqV f n e := by rw [p6 h.1]; omega
    have hb : -10000 ≤ sg * tqV f n e ∧ sg * tqV f n e ≤ 10000 := by
      rcases hs with hs | hs <;> rw [hs] <;> omega
    have hst : ∀ Q : zO → zI → Prop, wz W 190 0 [.ref 353, .int (jI sg), .int (jI lo), .int (jI hi), .float 0] [] (jm J) Q = wz W 190 39 [.ref 353, .int (jI sg), .int (jI lo), .int (jI hi), .float 0] [.int (b2 (decide (lo ≤ sg * tqV f n e) && decide (sg * tqV f n e ≤ hi)))] (jm J) Q := by
      intro Q
      rw [sg_190_0, sp_187g p7]
      simp only [zk_l, zk_r, Option.toList_some, Option.toList_none, List.cons_append, List.nil_append, zrokB, zrokB0, zrokB1, zrokJ0, zrokJ1, and_true, true_and, and_self, if_true, if_false, b2_0, b2_1, b2_not, ite_self]
      rw [sg_190_4, if_neg (by decide)]
      simp (disch := first | assumption | omega) only [p3, p4, p5, q6, zk_l, zk_r, Option.toList_some, Option.toList_none, List.cons_append, List.nil_append, zrokB, zrokB0, zrokB1, zrokJ0, zrokJ1, and_true, true_and, and_self, if_true, if_false, b2_0, b2_1, b2_not, ite_self, Int.add_zero, jI_nat, jI_add, jI_sub, jI_mul, jI_neg, jI_lt, jI_le, jI_eq, jI_lt0, jI_0lt, jI_le0, jI_0le, jI_eq0, jI_in, jI_dv, i_mod, jI_cl, jm_n, jz_n, i_lit, i_c0, i_c1, Int.toNat_of_nonneg, Int.toNat_natCast, jrow_same, jrow_ne, jrow_jrow, sset_eq, sset_ne]
      rw [if_pos h.1, if_neg (by omega), sp_176j (by omega) (by omega) (by omega) (by omega) (by omega) (by omega)]
      simp only [zk_l, zk_r, Option.toList_some, Option.toList_none, List.cons_append, List.nil_append, zrokB, zrokB0, zrokB1, zrokJ0, zrokJ1, and_true, true_and, and_self, if_true, if_false, b2_0, b2_1, b2_not, ite_self]
    by_cases c : lo ≤ sg * tqV f n e ∧ sg * tqV f n e ≤ hi
    · obtain ⟨J2, r2, pr2, fr2⟩ := sp_185 (W := W) (J := J) (f := f) (n := n) (e := tqE f n e) ht p2 p3 p7 (by omega) (by omega)
      refine ⟨oI (sg * tqV f n e), J2, fun Q => ?_, fr2, ?_⟩
      · rw [hst, sg_190_39, decide_eq_true c.1, decide_eq_true c.2, if_neg (by decide)]
        simp (disch := first | assumption | omega) only [q6, zk_l, zk_r, Option.toList_some, Option.toList_none, List.cons_append, List.nil_append, zrokB, zrokB0, zrokB1, zrokJ0, zrokJ1, and_true, true_and, and_self, if_true, if_false, b2_0, b2_1, b2_not, ite_self, Int.add_zero, jI_nat, jI_add, jI_sub, jI_mul, jI_neg, jI_lt, jI_le, jI_eq, jI_lt0, jI_0lt, jI_le0, jI_0le, jI_eq0, jI_in, jI_dv, i_mod, jI_cl, jm_n, jz_n, i_lit, i_c0, i_c1, Int.toNat_of_nonneg, Int.toNat_natCast, jrow_same, jrow_ne, jrow_jrow, sset_eq, sset_ne]
        rw [r2]
        simp only [zk_l, zk_r, Option.toList_some, Option.toList_none, List.cons_append, List.nil_append, zrokB, zrokB0, zrokB1, zrokJ0, zrokJ1, and_true, true_and, and_self, if_true, if_false, b2_0, b2_1, b2_not, ite_self]
        rw [sg_190_60]
      · unfold pSg
        rw [if_pos ⟨h.1, h.2, c⟩]
        exact ⟨rfl, pr2⟩
    · refine ⟨oI 0, _, fun Q => ?_, fbad, ?_⟩
      · have ef : (decide (lo ≤ sg * tqV f n e) && decide (sg * tqV f n e ≤ hi)) = false := by
          rw [← Bool.not_eq_true, Bool.and_eq_true, decide_eq_true_eq, decide_eq_true_eq]
          exact c
        rw [hst, sg_190_39, ef, if_pos (by decide), hbad]
      · unfold pSg
        rw [if_neg (fun h9 => c h9.2.2)]
        exact ⟨rfl, vbad⟩
  · refine ⟨oI 0, _, fun Q => ?_, fbad, ?_⟩
    · rw [sg_190_0, sp_187g p7]
      simp only [zk_l, zk_r, Option.toList_some, Option.toList_none, List.cons_append, List.nil_append, zrokB, zrokB0, zrokB1, zrokJ0, zrokJ1, and_true, true_and, and_self, if_true, if_false, b2_0, b2_1, b2_not, ite_self]
      rw [sg_190_4, if_neg (by decide)]
      simp (disch := first | assumption | omega) only [p3, p4, p5, jI_sub, jI_eq, jI_lt, jm_n, i_lit]
      by_cases c2 : tqK f n e = 2
      · rw [if_pos c2, if_pos (by omega), hbad]
      · rw [if_neg c2, hbad]
    · unfold pSg
      rw [if_neg (fun h9 => h ⟨h9.1, h9.2.1⟩)]
      exact ⟨rfl, vbad⟩
theorem sp_190b {x y z : Int32} (h : 0 ≤ J 353 7) (h9 : J 353 7 ≤ 900) : wz W 190 0 [.ref 353, .int x, .int y, .int z, .float 0] [] (jm J) Q = Q (oI 0) (jm J) := by
  rw [sg_190_0, sp_187b h h9]
  simp only [zk_l, zk_r, Option.toList_some, Option.toList_none, List.cons_append, List.nil_append, zrokB, zrokB0, zrokB1, zrokJ0, zrokJ1, and_true, true_and, and_self, if_true, if_false, b2_0, b2_1, b2_not, ite_self]
  rw [sg_190_4, if_pos (by decide), sg_190_42, sp_186b h h9]
  simp only [zk_l, zk_r, Option.toList_some, Option.toList_none, List.cons_append, List.nil_append, zrokB, zrokB0, zrokB1, zrokJ0, zrokJ1, and_true, true_and, and_self, if_true, if_false, b2_0, b2_1, b2_not, ite_self]
  rw [sg_190_46]
theorem sp_191g {lo hi : Int} (ht : txt (J 354) f n) (hp : PR f n J e) (e0 : 0 ≤ e) (e1 : e ≤ n) (l0 : -100000 ≤ lo) (l1 : lo ≤ 100000) (h0 : -100000 ≤ hi) (h1 : hi ≤ 100000) :
    ∃ o J', (∀ Q : zO → zI → Prop, wz W 191 0 [.ref 353, .int (jI lo), .int (jI hi)] [] (jm J) Q = Q o (jm J')) ∧ frT J J' ∧ rRs f n J' o (pNu f n lo hi e) := by
  obtain ⟨o, J', hr, hf, hc⟩ := sp_190g (W := W) (sg := 1) ht hp e0 e1 l0 l1 h0 h1 (Or.inl rfl)
  refine ⟨o, J', fun Q => ?_, hf, hc⟩
  rw [sg_191_0, hr]
  unfold pNu at *
  cases hq : pSg f n 1 lo hi e with
  | inl p =>
    rw [hq] at hc
    obtain ⟨ho, -⟩ := hc
    rw [ho]
    simp only [zk_l, zk_r, Option.toList_some, Option.toList_none, List.cons_append, List.nil_append, zrokB, zrokB0, zrokB1, zrokJ0, zrokJ1, and_true, true_and, and_self, if_true, if_false, b2_0, b2_1, b2_not, ite_self]
    rw [sg_191_7]
  | inr v =>
    obtain ⟨v, e'⟩ := v
    rw [hq] at hc
    obtain ⟨ho, -⟩ := hc
    rw [ho]
    simp only [zk_l, zk_r, Option.toList_some, Option.toList_none, List.cons_append, List.nil_append, zrokB, zrokB0, zrokB1, zrokJ0, zrokJ1, and_true, true_and, and_self, if_true, if_false, b2_0, b2_1, b2_not, ite_self]
    rw [sg_191_7]
theorem sp_191b {y z : Int32} (h : 0 ≤ J 353 7) (h9 : J 353 7 ≤ 900) : wz W 191 0 [.ref 353, .int y, .int z] [] (jm J) Q = Q (oI 0) (jm J) := by
  rw [sg_191_0, sp_190b h h9]
  simp only [zk_l, zk_r, Option.toList_some, Option.toList_none, List.cons_append, List.nil_append, zrokB, zrokB0, zrokB1, zrokJ0, zrokJ1, and_true, true_and, and_self, if_true, if_false, b2_0, b2_1, b2_not, ite_self]
  rw [sg_191_7]
theorem rRs_o {T' : zJ} {o : zO} {r : Int ⊕ (Int × Int)} (h : rRs f n T' o r) : ∃ v : Int, o = oI v := by
  cases r with
  | inl p => exact ⟨0, h.1⟩
  | inr v => exact ⟨v.1, h.1⟩
theorem sp_192g {lo hi : Int} (ht : txt (J 354) f n) (hp : PR f n J e) (e0 : 0 ≤ e) (e1 : e ≤ n) (l0 : -100000 ≤ lo) (l1 : lo ≤ 100000) (h0 : -100000 ≤ hi) (h1 : hi ≤ 100000) :
    ∃ o J', (∀ Q : zO → zI → Prop, wz W 192 0 [.ref 353, .int (jI lo), .int (jI hi)] [] (jm J) Q = Q o (jm J')) ∧ frT J J' ∧ rRs f n J' o (pTe f n lo hi e) := by
  have hp' := hp
  obtain ⟨p2, p3, p4, p5, p6, p7⟩ := hp'
  have hS := tqS_b (f := f) e1
  have hE := tqE_b (f := f) e1
  unfold pTe
  cases hg : tqG f n e 45 with
  | false =>
    obtain ⟨o, J', hr, hf, hc⟩ := sp_190g (W := W) (sg := 1) ht hp e0 e1 l0 l1 h0 h1 (Or.inl rfl)
    refine ⟨o, J', fun Q => ?_, hf, hc⟩
    rw [sg_192_0, sp_188g ht hp e0 e1 (by decide) (by decide), hg]
    simp only [zk_l, zk_r, Option.toList_some, Option.toList_none, List.cons_append, List.nil_append, zrokB, zrokB0, zrokB1, zrokJ0, zrokJ1, and_true, true_and, and_self, if_true, if_false, b2_0, b2_1, b2_not, ite_self]
    rw [sg_192_6, if_pos (by decide), hr]
    obtain ⟨v, rfl⟩ := rRs_o hc
    simp only [zk_l, zk_r, Option.toList_some, Option.toList_none, List.cons_append, List.nil_append, zrokB, zrokB0, zrokB1, zrokJ0, zrokJ1, and_true, true_and, and_self, if_true, if_false, b2_0, b2_1, b2_not, ite_self]
    rw [sg_192_16]
  | true =>
    obtain ⟨J2, r2, pr2, fr2⟩ := sp_185 (W := W) (J := J) (f := f) (n := n) (e := tqE f n e) ht p2 p3 p7 (by omega) (by omega)
    obtain ⟨o, J', hr, hf, hc⟩ := sp_190g (W := W) (J := J2) (sg := -1) (by rw [fr2.1 354 (by decide)]; exact ht) pr2 (by omega) (by omega) l0 l1 h0 h1 (Or.inr rfl)
    refine ⟨o, J', fun Q => ?_, frT_trans fr2 hf, hc⟩
    rw [sg_192_0, sp_188g ht hp e0 e1 (by decide) (by decide), hg]
    simp only [zk_l, zk_r, Option.toList_some, Option.toList_none, List.cons_append, List.nil_append, zrokB, zrokB0, zrokB1, zrokJ0, zrokJ1, and_true, true_and, and_self, if_true, if_false, b2_0, b2_1, b2_not, ite_self]
    rw [sg_192_6, if_neg (by decide), r2]
    simp only [zk_l, zk_r, Option.toList_some, Option.toList_none, List.cons_append, List.nil_append, zrokB, zrokB0, zrokB1, zrokJ0, zrokJ1, and_true, true_and, and_self, if_true, if_false, b2_0, b2_1, b2_not, ite_self]
    rw [sg_192_21, hr]
    obtain ⟨v, rfl⟩ := rRs_o hc
    simp only [zk_l, zk_r, Option.toList_some, Option.toList_none, List.cons_append, List.nil_append, zrokB, zrokB0, zrokB1, zrokJ0, zrokJ1, and_true, true_and, and_self, if_true, if_false, b2_0, b2_1, b2_not, ite_self]
    rw [sg_192_28]
theorem sp_192b {y z : Int32} (h : 0 ≤ J 353 7) (h9 : J 353 7 ≤ 900) : wz W 192 0 [.ref 353, .int y, .int z] [] (jm J) Q = Q (oI 0) (jm J) := by
  rw [sg_192_0, sp_188b h h9]
  simp only [zk_l, zk_r, Option.toList_some, Option.toList_none, List.cons_append, List.nil_append, zrokB, zrokB0, zrokB1, zrokJ0, zrokJ1, and_true, true_and, and_self, if_true, if_false, b2_0, b2_1, b2_not, ite_self]
  rw [sg_192_6, if_pos (by decide), sp_190b h h9]
  simp only [zk_l, zk_r, Option.toList_some, Option.toList_none, List.cons_append, List.nil_append, zrokB, zrokB0, zrokB1, zrokJ0, zrokJ1, and_true, true_and, and_self, if_true, if_false, b2_0, b2_1, b2_not, ite_self]
  rw [sg_192_16]
/-! names -/
def tqZ (f : Int → Int) (n e : Int) : Bool := tqW f n e 0 || (tqW f n e 1 || (tqW f n e 2 || (tqW f n e 3 || (tqW f n e 4 || (tqW f n e 5 || tqW f n e 6)))))
theorem sp_193 (ht : txt (J 354) f n) (hp : PR f n J e) (e0 : 0 ≤ e) (e1 : e ≤ n) : wz W 193 0 [.ref 353] [] (jm J) Q = Q (oB (tqZ f n e)) (jm J) := by
  have h63 : wz W 193 63 [.ref 353] [] (jm J) Q = Q (oB true) (jm J) := by
    rw [sg_193_63, sg_193_68]
    simp only [zk_l, zk_r, Option.toList_some, Option.toList_none, List.cons_append, List.nil_append, zrokB, zrokB0, zrokB1, zrokJ0, zrokJ1, and_true, true_and, and_self, if_true, if_false, b2_0, b2_1, b2_not, ite_self]
    rfl
  unfold tqZ
  rw [sg_193_0, sp_189 (by decide) ht hp e0 e1]
  simp only [zk_l, zk_r, Option.toList_some, Option.toList_none, List.cons_append, List.nil_append, zrokB, zrokB0, zrokB1, zrokJ0, zrokJ1, and_true, true_and, and_self, if_true, if_false, b2_0, b2_1, b2_not, ite_self]
  rw [sg_193_6]
  cases tqW f n e 0 with
  | true => rw [if_neg (by decide), h63]; rfl
  | false =>
    rw [if_pos (by decide), sp_189 (by decide) ht hp e0 e1]
    simp only [zk_l, zk_r, Option.toList_some, Option.toList_none, List.cons_append, List.nil_append, zrokB, zrokB0, zrokB1, zrokJ0, zrokJ1, and_true, true_and, and_self, if_true, if_false, b2_0, b2_1, b2_not, ite_self]
    rw [sg_193_15]
    cases tqW f n e 1 with
    | true => rw [if_neg (by decide), h63]; rfl
    | false =>
      rw [if_pos (by decide), sp_189 (by decide) ht hp e0 e1]
      simp only [zk_l, zk_r, Option.toList_some, Option.toList_none, List.cons_append, List.nil_append, zrokB, zrokB0, zrokB1, zrokJ0, zrokJ1, and_true, true_and, and_self, if_true, if_false, b2_0, b2_1, b2_not, ite_self]
      rw [sg_193_24]
      cases tqW f n e 2 with
      | true => rw [if_neg (by decide), h63]; rfl
      | false =>
        rw [if_pos (by decide), sp_189 (by decide) ht hp e0 e1]
        simp only [zk_l, zk_r, Option.toList_some, Option.toList_none, List.cons_append, List.nil_append, zrokB, zrokB0, zrokB1, zrokJ0, zrokJ1, and_true, true_and, and_self, if_true, if_false, b2_0, b2_1, b2_not, ite_self]
        rw [sg_193_33]
        cases tqW f n e 3 with
        | true => rw [if_neg (by decide), h63]; rfl
        | false =>
          rw [if_pos (by decide), sp_189 (by decide) ht hp e0 e1]
          simp only [zk_l, zk_r, Option.toList_some, Option.toList_none, List.cons_append, List.nil_append, zrokB, zrokB0, zrokB1, zrokJ0, zrokJ1, and_true, true_and, and_self, if_true, if_false, b2_0, b2_1, b2_not, ite_self]
          rw [sg_193_42]
          cases tqW f n e 4 with
          | true => rw [if_neg (by decide), h63]; rfl
          | false =>
            rw [if_pos (by decide), sp_189 (by decide) ht hp e0 e1]
            simp only [zk_l, zk_r, Option.toList_some, Option.toList_none, List.cons_append, List.nil_append, zrokB, zrokB0, zrokB1, zrokJ0, zrokJ1, and_true, true_and, and_self, if_true, if_false, b2_0, b2_1, b2_not, ite_self]
            rw [sg_193_51]
            cases tqW f n e 5 with
            | true => rw [if_neg (by decide), h63]; rfl
            | false =>
              rw [if_pos (by decide), sp_189 (by decide) ht hp e0 e1]
              simp only [zk_l, zk_r, Option.toList_some, Option.toList_none, List.cons_append, List.nil_append, zrokB, zrokB0, zrokB1, zrokJ0, zrokJ1, and_true, true_and, and_self, if_true, if_false, b2_0, b2_1, b2_not, ite_self]
              rw [sg_193_60]
              cases tqW f n e 6 with
              | true => rw [if_neg (by decide), h63]; rfl
              | false =>
                rw [if_pos (by decide), sg_193_68]
                simp only [zk_l, zk_r, Option.toList_some, Option.toList_none, List.cons_append, List.nil_append, zrokB, zrokB0, zrokB1, zrokJ0, zrokJ1, and_true, true_and, and_self, if_true, if_false, b2_0, b2_1, b2_not, ite_self]
                rfl
/-- the name here, 0 if there is none -/
def tqN (f : Int → Int) (n e : Int) : Int := if tqK f n e = 1 ∧ tqE f n e - tqS f n e ≤ 6 ∧ tqZ f n e = false then tqC f n e else 0
theorem tqN_b {f : Int → Int} {n e : Int} (e1 : e ≤ n) : 0 ≤ tqN f n e ∧ tqN f n e < 1073741824 := by
  unfold tqN
  split
  · rename_i h
    unfold tqC
    rw [if_pos ⟨h.1, h.2.1⟩]
    obtain ⟨h1, h2, -⟩ := cdL_p (f := f) (s := tqS f n e) (tqE f n e - tqS f n e).toNat (by omega) (tq_let h.1)
    omega
  · omega
theorem sp_194g (ht : txt (J 354) f n) (hp : PR f n J e) (e0 : 0 ≤ e) (e1 : e ≤ n) : wz W 194 0 [.ref 353, .float 0, .float 0] [] (jm J) Q = Q (oI (tqN f n e)) (jm J) := by
  have hp' := hp
  obtain ⟨p2, p3, p4, p5, p6, p7⟩ := hp'
  have n9 := ht.2.1
  have hS := tqS_b (f := f) e1
  have hE := tqE_b (f := f) e1
  have hK := tqK_b f n e
  rw [sg_194_0, sp_187g p7]
  simp only [zk_l, zk_r, Option.toList_some, Option.toList_none, List.cons_append, List.nil_append, zrokB, zrokB0, zrokB1, zrokJ0, zrokJ1, and_true, true_and, and_self, if_true, if_false, b2_0, b2_1, b2_not, ite_self]
  rw [sg_194_4, if_neg (by decide)]
  simp (disch := first | assumption | omega) only [p3, p4, p5, jI_sub, jI_eq, jI_lt, jm_n, i_lit]
  unfold tqN
  by_cases h : tqK f n e = 1
  · rw [if_pos h]
    by_cases q : 6 < tqE f n e - tqS f n e
    · rw [if_pos q, sg_194_36, if_neg (fun h9 => by omega)]
    · rw [if_neg q, sp_193 ht hp e0 e1]
      simp only [zk_l, zk_r, Option.toList_some, Option.toList_none, List.cons_append, List.nil_append, zrokB, zrokB0, zrokB1, zrokJ0, zrokJ1, and_true, true_and, and_self, if_true, if_false, b2_0, b2_1, b2_not, ite_self]
      rw [sg_194_33]
      cases hz : tqZ f n e with
      | true => rw [if_neg (by decide), sg_194_36, if_neg (fun h9 => by cases h9.2.2)]
      | false =>
        rw [if_pos (by decide), if_pos ⟨h, by omega, rfl⟩]
        unfold tqC
        rw [if_pos ⟨h, by omega⟩]
        have hl := tq_let h
        have key := zloop (f := fun k : Nat => wz W 194 45 [.ref 353, .int (jI (cdL f (tqS f n e) k)), .int (jI (tqS f n e + (k : Int)))] [] (jm J) Q) (tqE f n e - tqS f n e).toNat (fun k hk => by
          obtain ⟨c1, c2, -⟩ := cdL_p (f := f) (s := tqS f n e) k (by omega) (fun j hj => hl j (by omega))
          have c3 := (cdL_b (f := f) (s := tqS f n e) k (fun j hj => hl j (by omega))).2
          have c4 : (32 : Int) ^ k ≤ 33554432 := (by decide : ∀ k : Nat, k < 6 → (32 : Int) ^ k ≤ 33554432) k (by omega)
          obtain ⟨d1, d2⟩ := hl k hk
          have hv := (ht.2.2 (tqS f n e + k) (by omega) (by omega)).1
          try simp only
          rw [sg_194_45]
          simp (disch := first | assumption | omega) only [p3, hv, zk_l, zk_r, Option.toList_some, Option.toList_none, List.cons_append, List.nil_append, zrokB, zrokB0, zrokB1, zrokJ0, zrokJ1, and_true, true_and, and_self, if_true, if_false, b2_0, b2_1, b2_not, ite_self, Int.add_zero, jI_nat, jI_add, jI_sub, jI_mul, jI_neg, jI_lt, jI_le, jI_eq, jI_lt0, jI_0lt, jI_le0, jI_0le, jI_eq0, jI_in, jI_dv, i_mod, jI_cl, jm_n, jz_n, i_lit, i_c0, i_c1, Int.toNat_of_nonneg, Int.toNat_natCast, jrow_same, jrow_ne, jrow_jrow, sset_eq, sset_ne]
          rw [if_neg (by omega), jor5 c1 (by omega) (by omega) (by omega)]
          rw [show 32 * cdL f (tqS f n e) k + (f (tqS f n e + (k : Int)) - 96) = cdL f (tqS f n e) (k + 1) from rfl, show tqS f n e + (k : Int) + 1 = tqS f n e + ((k + 1 : Nat) : Int) by omega])
        try simp only at key
        rw [show tqS f n e + ((0 : Nat) : Int) = tqS f n e by omega] at key
        simp (disch := first | assumption | omega) only [p4, jm_n, i_lit]
        refine Eq.trans key ?_
        rw [sg_194_45]
        simp (disch := first | assumption | omega) only [p3, jI_le, jm_n, i_lit]
        rw [if_pos (by omega)]
  · rw [if_neg h, sg_194_36, if_neg (fun h9 => h h9.1)]
theorem sp_194b (h : 0 ≤ J 353 7) (h9 : J 353 7 ≤ 900) : wz W 194 0 [.ref 353, .float 0, .float 0] [] (jm J) Q = Q (oI 0) (jm J) := by
  rw [sg_194_0, sp_187b h h9]
  simp only [zk_l, zk_r, Option.toList_some, Option.toList_none, List.cons_append, List.nil_append, zrokB, zrokB0, zrokB1, zrokJ0, zrokJ1, and_true, true_and, and_self, if_true, if_false, b2_0, b2_1, b2_not, ite_self]
  rw [sg_194_4, if_pos (by decide), sg_194_36]
end
