/-! ===== the reference: lengths of ways ===== -/
/-- open for the pallet own -/
def opn (s : Int → Int) (c own : Int) : Int → Bool := fun k => decide (s (400 + 24 * c + k) = -1) || decide (s (400 + 24 * c + k) = own)
def wayS (s : Int → Int) (c own cell : Int) : Int := wl (nb (gC s c)) (nC s c) (drs s c) (opn s c own) cell
theorem prc_opn (s : Int → Int) (c own k : Int) : prc s c own false k = lv1 (opn s c own) k := by
  unfold prc lv1 opn
  simp only [Bool.false_eq_true, if_false, Bool.or_eq_true, decide_eq_true_eq]
theorem dc0_opn (s : Int → Int) (c own k : Int) : dc0 s c own false k = lc0 (drs s c) (opn s c own) k := by
  unfold dc0 lc0
  rw [prc_opn]
  unfold lv1
  cases drs s c k <;> cases opn s c own k <;> rfl
/-- the least number of moves of p, and one more -/
def movS (s : Int → Int) (c p cell : Int) : Int := wl (nb (gC s c)) (nC s c) (fun k => decide (24 * c + k = s (72 + 7 * p + 3))) (opn s c p) cell
section
variable {W : zW} {J : zJ} {Q : zO → zI → Prop}
theorem sp_233w (hK : okK (J 355)) {c own : Int} (h2 : 0 ≤ c) (h3 : c < J 355 4) (hC : smC (J 355) c) (w1 : -1 ≤ own) (w2 : own < 40) :
    ∃ x', (∀ k, 0 ≤ k → k < (nC (J 355) c : Int) → x' k = wayS (J 355) c own k) ∧ ∀ Q : zO → zI → Prop, wz W 233 0 [.ref 353, .int (jI c), .int (jI own), .int (jI 0), .float 0] [] (jm J) Q = Q oV (jm (jrow J 358 x')) := by
  obtain ⟨e, n1, n2, r1, r2, c1, c2, c3⟩ := nC_eq hK h2 h3
  obtain ⟨x', a1, a2, a3⟩ := sp_233 (W := W) hK h2 h3 hC w1 w2 false
  refine ⟨x', fun k k0 k1 => ?_, fun Q => a3 Q⟩
  have e1 : dc0 (J 355) c own false = lc0 (drs (J 355) c) (opn (J 355) c own) := funext fun k => dc0_opn _ _ _ _
  have e2 : prc (J 355) c own false = lv1 (opn (J 355) c own) := funext fun k => prc_opn _ _ _ _
  rw [e1, e2] at a1
  exact least_eq a1 (wl_least n2) k0 k1
theorem sp_234 (hK : okK (J 355)) {c own cell : Int} (h2 : 0 ≤ c) (h3 : c < J 355 4) (hC : smC (J 355) c) (w1 : -1 ≤ own) (w2 : own < 40) (k0 : 0 ≤ cell) (k1 : cell < nC (J 355) c) :
    ∃ x', (∀ k, 0 ≤ k → k < (nC (J 355) c : Int) → x' k = wayS (J 355) c own k) ∧ ∀ Q : zO → zI → Prop, wz W 234 0 [.ref 353, .int (jI c), .int (jI cell), .int (jI own)] [] (jm J) Q = Q (oI (wayS (J 355) c own cell)) (jm (jrow J 358 x')) := by
  obtain ⟨e, n1, n2, r1, r2, c1, c2, c3⟩ := nC_eq hK h2 h3
  obtain ⟨x', a1, a2⟩ := sp_233w (W := W) hK h2 h3 hC w1 w2
  refine ⟨x', a1, fun Q => ?_⟩
  rw [sg_234_0, a2]
  simp only [zk_l, zk_r, Option.toList_some, Option.toList_none, List.cons_append, List.nil_append, zrokB, zrokB0, zrokB1, zrokJ0, zrokJ1, and_true, true_and, and_self, if_true, if_false, b2_0, b2_1, b2_not, ite_self]
  rw [sg_234_7]
  simp (disch := first | assumption | omega) only [zk_l, zk_r, Option.toList_some, Option.toList_none, List.cons_append, List.nil_append, zrokB, zrokB0, zrokB1, zrokJ0, zrokJ1, and_true, true_and, and_self, if_true, if_false, b2_0, b2_1, b2_not, ite_self, Int.add_zero, jI_nat, jI_add, jI_sub, jI_mul, jI_neg, jI_lt, jI_le, jI_eq, jI_lt0, jI_0lt, jI_le0, jI_0le, jI_eq0, jI_in, jI_dv, i_mod, jI_cl, jm_n, jz_n, i_lit, i_c0, i_c1, Int.toNat_of_nonneg, Int.toNat_natCast, jrow_same, jrow_ne, jrow_jrow, sset_eq, sset_ne]
  rw [a1 cell k0 k1]
theorem sp_235 (hK : okK (J 355)) {p : Int} (p0 : 0 ≤ p) (p1 : p < 40) (w0 : 0 ≤ J 355 (72 + 7 * p + 3)) (h3 : J 355 (72 + 7 * p + 3) / 24 < J 355 4) (hC : smC (J 355) (J 355 (72 + 7 * p + 3) / 24)) (k1 : J 355 (72 + 7 * p + 3) % 24 < nC (J 355) (J 355 (72 + 7 * p + 3) / 24)) :
    ∃ x', (∀ k, 0 ≤ k → k < (nC (J 355) (J 355 (72 + 7 * p + 3) / 24) : Int) → x' k = wayS (J 355) (J 355 (72 + 7 * p + 3) / 24) p k) ∧ ∀ Q : zO → zI → Prop, wz W 235 0 [.ref 353, .int (jI p)] [] (jm J) Q = Q (oI (wayS (J 355) (J 355 (72 + 7 * p + 3) / 24) p (J 355 (72 + 7 * p + 3) % 24))) (jm (jrow J 358 x')) := by
  obtain ⟨b1, b2, b3, b4, b5, b6, b7, b8, b9, b10, b11, b12⟩ := hK.1
  obtain ⟨x', a1, a2⟩ := sp_234 (W := W) hK (own := p) (show 0 ≤ J 355 (72 + 7 * p + 3) / 24 by omega) h3 hC (by omega) p1 (show 0 ≤ J 355 (72 + 7 * p + 3) % 24 by omega) k1
  refine ⟨x', a1, fun Q => ?_⟩
  rw [sg_235_0]
  simp (disch := first | assumption | omega) only [sp_221, sg_235_7, sg_235_16, Int.add_zero, jI_nat, jI_add, jI_sub, jI_mul, jI_neg, jI_lt, jI_le, jI_eq, jI_lt0, jI_0lt, jI_le0, jI_0le, jI_eq0, jI_in, jI_dv, i_mod, zk_l, zk_r, Option.toList_some, Option.toList_none, List.cons_append, List.nil_append, zrokB, zrokB0, zrokB1, zrokJ0, zrokJ1, and_true, true_and, and_self, if_true, if_false, b2_0, b2_1, b2_not, ite_self]
  rw [a2]
  simp only [sg_235_23, zk_l, zk_r, Option.toList_some, Option.toList_none, List.cons_append, List.nil_append, zrokB, zrokB0, zrokB1, zrokJ0, zrokJ1, and_true, true_and, and_self, if_true, if_false, b2_0, b2_1, b2_not, ite_self]
theorem sp_248 (hK : okK (J 355)) {p c cell : Int} (p0 : 0 ≤ p) (p1 : p < 40) (h2 : 0 ≤ c) (h3 : c < J 355 4) (hC : smC (J 355) c) (w0 : -1 ≤ J 355 (72 + 7 * p + 3)) (w1 : J 355 (72 + 7 * p + 3) < 72) (hop : ∀ k, 0 ≤ k → k < (nC (J 355) c : Int) → 24 * c + k = J 355 (72 + 7 * p + 3) → opn (J 355) c p k = true) (k0 : 0 ≤ cell) (k1 : cell < nC (J 355) c) :
    ∃ x', ∀ Q : zO → zI → Prop, wz W 248 0 [.ref 353, .int (jI p), .int (jI c), .int (jI cell), .float 0] [] (jm J) Q = Q (oI (if movS (J 355) c p cell = -1 then -1 else movS (J 355) c p cell - 1)) (jm (jrow J 358 x')) := by
  obtain ⟨e, n1, n2, r1, r2, c1, c2, c3⟩ := nC_eq hK h2 h3
  have h225 : ∀ (x : Int → Int) (Q : zO → zI → Prop), wz W 225 0 [.ref 353, .int (jI c)] [] (jm (jrow J 358 x)) Q = Q (oI (nC (J 355) c)) (jm (jrow J 358 x)) := fun x Q => by
    have e5 : jrow J 358 x 355 = J 355 := jrow_ne (by decide)
    rw [sp_225k (J := jrow J 358 x) (by rw [e5]; exact hK) h2 (by rw [e5]; exact h3), e5]
  generalize hq : J 355 (72 + 7 * p + 3) = q at *
  have loop : ∀ Q : zO → zI → Prop, wz W 248 3 [.ref 353, .int (jI p), .int (jI c), .int (jI cell), .int (jI 0)] [] (jm (jrow J 358 (spre (fun k => if 24 * c + k = q then 0 else -1) (J 358) 0))) Q = wz W 248 3 [.ref 353, .int (jI p), .int (jI c), .int (jI cell), .int (jI (nC (J 355) c))] [] (jm (jrow J 358 (spre (fun k => if 24 * c + k = q then 0 else -1) (J 358) (nC (J 355) c)))) Q := fun Q => zloop (f := fun k => wz W 248 3 [.ref 353, .int (jI p), .int (jI c), .int (jI cell), .int (jI k)] [] (jm (jrow J 358 (spre (fun k => if 24 * c + k = q then 0 else -1) (J 358) k))) Q) (nC (J 355) c) (fun k hk9 => by
    try simp only
    have e5 : jrow J 358 (spre (fun k => if 24 * c + k = q then 0 else -1) (J 358) k) 355 = J 355 := jrow_ne (by decide)
    rw [sg_248_3, h225]
    simp only [zk_l, zk_r, Option.toList_some, Option.toList_none, List.cons_append, List.nil_append, zrokB, zrokB0, zrokB1, zrokJ0, zrokJ1, and_true, true_and, and_self, if_true, if_false, b2_0, b2_1, b2_not, ite_self]
    rw [sg_248_10, if_neg (by rw [jI_le (by omega) (by omega) (by omega) (by omega)]; omega), sp_221 (by omega) (by omega) (by omega), e5, hq]
    simp (disch := first | assumption | omega) only [Int.add_zero, jI_nat, jI_add, jI_sub, jI_mul, jI_neg, jI_lt, jI_le, jI_eq, jI_lt0, jI_0lt, jI_le0, jI_0le, jI_eq0, jI_in, jI_dv, i_mod, zk_l, zk_r, Option.toList_some, Option.toList_none, List.cons_append, List.nil_append, zrokB, zrokB0, zrokB1, zrokJ0, zrokJ1, and_true, true_and, and_self, if_true, if_false, b2_0, b2_1, b2_not, ite_self]
    rw [sg_248_32 (hqt0 := za_358)]
    simp (disch := first | assumption | omega) only [Int.add_zero, jI_nat, jI_add, jI_sub, jI_mul, jI_neg, jI_lt, jI_le, jI_eq, jI_lt0, jI_0lt, jI_le0, jI_0le, jI_eq0, jI_in, jI_dv, i_mod]
    rw [← spre_s]
    by_cases h9 : 24 * c + (k : Int) = q
    · rw [if_pos h9, sg_248_40 (hqt0 := za_358), if_pos h9]
      simp (disch := first | assumption | omega) only [zk_l, zk_r, Option.toList_some, Option.toList_none, List.cons_append, List.nil_append, zrokB, zrokB0, zrokB1, zrokJ0, zrokJ1, and_true, true_and, and_self, if_true, if_false, b2_0, b2_1, b2_not, ite_self, Int.add_zero, jI_nat, jI_add, jI_sub, jI_mul, jI_neg, jI_lt, jI_le, jI_eq, jI_lt0, jI_0lt, jI_le0, jI_0le, jI_eq0, jI_in, jI_dv, i_mod, jI_cl, jm_n, jz_n, i_lit, i_c0, i_c1, Int.toNat_of_nonneg, Int.toNat_natCast, jrow_same, jrow_ne, jrow_jrow, sset_eq, sset_ne]
      rfl
    · rw [if_neg h9, sg_248_40 (hqt0 := za_358), if_neg h9]
      simp (disch := first | assumption | omega) only [zk_l, zk_r, Option.toList_some, Option.toList_none, List.cons_append, List.nil_append, zrokB, zrokB0, zrokB1, zrokJ0, zrokJ1, and_true, true_and, and_self, if_true, if_false, b2_0, b2_1, b2_not, ite_self, Int.add_zero, jI_nat, jI_add, jI_sub, jI_mul, jI_neg, jI_lt, jI_le, jI_eq, jI_lt0, jI_0lt, jI_le0, jI_0le, jI_eq0, jI_in, jI_dv, i_mod, jI_cl, jm_n, jz_n, i_lit, i_c0, i_c1, Int.toNat_of_nonneg, Int.toNat_natCast, jrow_same, jrow_ne, jrow_jrow, sset_eq, sset_ne]
      rfl)
  have e0 : jrow J 358 (spre (fun k => if 24 * c + k = q then 0 else -1) (J 358) 0) = J := by rw [spre_0, jrow_id]
  rw [e0] at loop
  have hbd : ∀ k, 0 ≤ k → k < ((nC (J 355) c : Nat) : Int) → -1 ≤ (fun k => if 24 * c + k = q then (0 : Int) else -1) k ∧ (fun k => if 24 * c + k = q then (0 : Int) else -1) k ≤ 1 := by
    intro k _ _
    try simp only
    split <;> omega
  obtain ⟨x', a1, a2, a3⟩ := sp_231 (W := W) hK h2 h3 hC (own := p) (by omega) p1 false (c0 := fun k => if 24 * c + k = q then 0 else -1) (wgt (spre (fun k => if 24 * c + k = q then 0 else -1) (J 358) (nC (J 355) c)) (nC (J 355) c) + 1) (spre (fun k => if 24 * c + k = q then 0 else -1) (J 358) (nC (J 355) c)) (by omega) (spJ_start (fun k k0 k1 => spre_in k0 k1) hbd) (.float 0) (.float 0) (.float 0)
  refine ⟨x', fun Q => ?_⟩
  have hval : x' cell = if movS (J 355) c p cell = -1 then -1 else movS (J 355) c p cell - 1 := by
    have u1 := least_up (c1 := lc0 (fun k => decide (24 * c + k = q)) (opn (J 355) c p)) (fun k k0 k1 => (prc_bd (J 355) c p false k).1) (fun k k0 k1 => (hbd k k0 k1).1) (fun k k0 k1 => by
      unfold lc0
      by_cases h9 : 24 * c + k = q
      · have h8 := hop k k0 k1 h9
        simp [h9, h8]
      · simp [h9]) a1 (fun k k0 k1 => (a2 k k0 k1).1)
    have e2 : prc (J 355) c p false = lv1 (opn (J 355) c p) := funext fun k => prc_opn _ _ _ _
    rw [e2] at u1
    have u2 := least_eq u1 (wl_least n2) k0 k1
    have hb := a2 cell k0 k1
    have u3 : movS (J 355) c p cell = if x' cell = -1 then -1 else x' cell + 1 := by
      rw [u2]
      unfold movS
      rw [hq]
    rw [u3]
    by_cases h9 : x' cell = -1
    · rw [if_pos h9, if_pos rfl, h9]
    · rw [if_neg h9, if_neg (by omega)]
      omega
  rw [sg_248_0]
  refine (loop Q).trans ?_
  rw [sg_248_3, h225]
  simp only [zk_l, zk_r, Option.toList_some, Option.toList_none, List.cons_append, List.nil_append, zrokB, zrokB0, zrokB1, zrokJ0, zrokJ1, and_true, true_and, and_self, if_true, if_false, b2_0, b2_1, b2_not, ite_self]
  rw [sg_248_10, if_pos (by rw [jI_le (by omega) (by omega) (by omega) (by omega)]; omega), sg_231_0]
  refine (a3 _).trans ?_
  simp only [zk_l, zk_r, Option.toList_some, Option.toList_none, List.cons_append, List.nil_append, zrokB, zrokB0, zrokB1, zrokJ0, zrokJ1, and_true, true_and, and_self, if_true, if_false, b2_0, b2_1, b2_not, ite_self]
  rw [sg_248_54]
  simp (disch := first | assumption | omega) only [zk_l, zk_r, Option.toList_some, Option.toList_none, List.cons_append, List.nil_append, zrokB, zrokB0, zrokB1, zrokJ0, zrokJ1, and_true, true_and, and_self, if_true, if_false, b2_0, b2_1, b2_not, ite_self, Int.add_zero, jI_nat, jI_add, jI_sub, jI_mul, jI_neg, jI_lt, jI_le, jI_eq, jI_lt0, jI_0lt, jI_le0, jI_0le, jI_eq0, jI_in, jI_dv, i_mod, jI_cl, jm_n, jz_n, i_lit, i_c0, i_c1, Int.toNat_of_nonneg, Int.toNat_natCast, jrow_same, jrow_ne, jrow_jrow, sset_eq, sset_ne]
  rw [hval]
end
