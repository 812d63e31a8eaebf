/-! ===== the reference: safety, prices, spreading costs ===== -/
theorem za_358 : zArr 358 24 := h_358
/-- one cell's say in isSafe -/
def sfAt (s : Int → Int) (c cell g wo k : Int) : Bool := decide (s (400 + 24 * c + k) = -1) || decide (s (400 + 24 * c + k) = wo) || !(nb (gC s c) cell k) || !(bad s g (s (72 + 7 * s (400 + 24 * c + k))))
def sfB (s : Int → Int) (c cell g wo : Int) : Bool := zAllB (fun k => sfAt s c cell g wo k) (nC s c)
/-- what entering a cell costs -/
def prc (s : Int → Int) (c own : Int) (cp : Bool) (k : Int) : Int :=
  if s (400 + 24 * c + k) = -1 ∨ s (400 + 24 * c + k) = own then (if cp = true then 0 else 1) else (if cp = true then 1 else -1)
theorem prc_bd (s : Int → Int) (c own : Int) (cp : Bool) (k : Int) : -1 ≤ prc s c own cp k ∧ prc s c own cp k ≤ 1 := by
  unfold prc
  split <;> split <;> omega
theorem ok_cell {s : Int → Int} (hL : okL s) (hP : okP s) {c k : Int} (h0 : 0 ≤ c) (h1 : c < 3) (k0 : 0 ≤ k) (k1 : k < 24) : s (400 + 24 * c + k) = -1 ∨ (0 ≤ s (400 + 24 * c + k) ∧ s (400 + 24 * c + k) < s 6 ∧ s (72 + 7 * s (400 + 24 * c + k) + 3) = 24 * c + k ∧ 0 ≤ s (72 + 7 * s (400 + 24 * c + k)) ∧ s (72 + 7 * s (400 + 24 * c + k)) < s 5) := by
  have h := hL (24 * c + k) (by omega) (by omega)
  rw [show 400 + (24 * c + k) = 400 + 24 * c + k by omega] at h
  rcases h with h | ⟨a, b, e⟩
  · exact Or.inl h
  · obtain ⟨p1, p2, -⟩ := hP _ a b
    exact Or.inr ⟨a, b, e, p1, p2⟩
section
variable {W : zW} {J : zJ} {Q : zO → zI → Prop}
theorem sp_228k (hK : okK (J 355)) {g o : Int} (h2 : 0 ≤ g) (h3 : g < J 355 5) (h4 : 0 ≤ o) (h5 : o < J 355 5) : wz W 228 0 [.ref 353, .int (jI g), .int (jI o)] [] (jm J) Q = Q (oB (bad (J 355) g o)) (jm J) := by
  obtain ⟨b1, b2, b3, b4, b5, b6, b7, b8, b9, b10, b11, b12⟩ := hK.1
  obtain ⟨g1, g2, g3, g4, g5, g6, g7, g8, g9, g10⟩ := hK.2.2.1 g h2 h3
  obtain ⟨o1, o2, o3, o4, o5, o6, o7, o8, o9, o10⟩ := hK.2.2.1 o h4 h5
  exact sp_228 h2 (by omega) h4 (by omega) (by omega) (by omega) (by omega) (by omega) (by omega) (by omega) (by omega) (by omega)
theorem sp_225k (hK : okK (J 355)) {c : Int} (h2 : 0 ≤ c) (h3 : c < J 355 4) : wz W 225 0 [.ref 353, .int (jI c)] [] (jm J) Q = Q (oI (nC (J 355) c)) (jm J) := by
  obtain ⟨e, n1, n2, r1, r2, c1, c2, c3⟩ := nC_eq hK h2 h3
  rw [sp_225 h2 c3, e]
theorem sp_230 (hK : okK (J 355)) (hL : okL (J 355)) (hP : okP (J 355)) (hA : J 355 6 ≤ 40) {c cell g wo : Int} (h2 : 0 ≤ c) (h3 : c < J 355 4) (a1 : 0 ≤ cell) (a2 : cell < 24) (g1 : 0 ≤ g) (g2 : g < J 355 5) (w1 : -1 ≤ wo) (w2 : wo < 40) :
    wz W 230 0 [.ref 353, .int (jI c), .int (jI cell), .int (jI g), .int (jI wo), .float 0, .float 0] [] (jm J) Q = Q (oB (sfB (J 355) c cell g wo)) (jm J) := by
  obtain ⟨e, n1, n2, r1, r2, c1, c2, c3⟩ := nC_eq hK h2 h3
  rw [sg_230_0]
  have key := zloop_all (f := fun k (v : Value) => wz W 230 3 [.ref 353, .int (jI c), .int (jI cell), .int (jI g), .int (jI wo), .int (jI k), v] [] (jm J) Q)
    (A := Q (oB false) (jm J)) (B := Q (oB true) (jm J)) (fun k => sfAt (J 355) c cell g wo k) (nC (J 355) c) (fun k _ => .int (jI (J 355 (400 + 24 * c + k)))) (.float 0) ?_ ?_ ?_
  · refine Eq.trans key ?_
    unfold sfB
    split
    · rename_i h; rw [h]
    · rename_i h; rw [Bool.not_eq_true] at h; rw [h]
  · intro k v hkn hp
    have hc := ok_cell hL hP (c := c) (k := k) h2 c3 (by omega) (by omega)
    try simp only
    rw [sg_230_3]
    simp (disch := first | assumption | omega) only [sp_225k hK, sg_230_10, sp_226, Int.add_zero, jI_nat, jI_add, jI_sub, jI_mul, jI_neg, jI_lt, jI_le, jI_eq, jI_lt0, jI_0lt, jI_le0, jI_0le, jI_eq0, jI_in, jI_dv, i_mod, zk_l, zk_r, Option.toList_some, Option.toList_none, List.cons_append, List.nil_append, zrokB, zrokB0, zrokB1, zrokJ0, zrokJ1, and_true, true_and, and_self, if_true, if_false, b2_0, b2_1, b2_not, ite_self]
    rw [if_neg (by omega)]
    rw [sg_230_20]
    unfold sfAt at hp
    rcases hc with hc | hc
    · simp (disch := first | assumption | omega) only [hc, sg_230_63, Int.add_zero, jI_nat, jI_add, jI_sub, jI_mul, jI_neg, jI_lt, jI_le, jI_eq, jI_lt0, jI_0lt, jI_le0, jI_0le, jI_eq0, jI_in, jI_dv, i_mod, zk_l, zk_r, Option.toList_some, Option.toList_none, List.cons_append, List.nil_append, zrokB, zrokB0, zrokB1, zrokJ0, zrokJ1, and_true, true_and, and_self, if_true, if_false, b2_0, b2_1, b2_not, ite_self]; rfl
    · simp (disch := first | assumption | omega) only [sg_230_63, sp_229, sg_230_43, sp_221, sg_230_55, sp_228k hK, sg_230_58, Int.add_zero, jI_nat, jI_add, jI_sub, jI_mul, jI_neg, jI_lt, jI_le, jI_eq, jI_lt0, jI_0lt, jI_le0, jI_0le, jI_eq0, jI_in, jI_dv, i_mod, zk_l, zk_r, Option.toList_some, Option.toList_none, List.cons_append, List.nil_append, zrokB, zrokB0, zrokB1, zrokJ0, zrokJ1, and_true, true_and, and_self, if_true, if_false, b2_0, b2_1, b2_not, ite_self]
      rw [if_neg (by omega)]
      simp only [decide_eq_false (show ¬ J 355 (400 + 24 * c + k) = -1 by omega), Bool.false_or, Bool.or_eq_true, decide_eq_true_eq, Bool.not_eq_true'] at hp
      rcases hp with (hp | hp) | hp
      · simp only [hp, if_true]; rfl
      · simp only [hp, if_true, ite_self]; rfl
      · simp only [hp, if_true, ite_self]; rfl
  · intro k v hkn hp
    have hc := ok_cell hL hP (c := c) (k := k) h2 c3 (by omega) (by omega)
    try simp only
    rw [sg_230_3]
    simp (disch := first | assumption | omega) only [sp_225k hK, sg_230_10, sp_226, Int.add_zero, jI_nat, jI_add, jI_sub, jI_mul, jI_neg, jI_lt, jI_le, jI_eq, jI_lt0, jI_0lt, jI_le0, jI_0le, jI_eq0, jI_in, jI_dv, i_mod, zk_l, zk_r, Option.toList_some, Option.toList_none, List.cons_append, List.nil_append, zrokB, zrokB0, zrokB1, zrokJ0, zrokJ1, and_true, true_and, and_self, if_true, if_false, b2_0, b2_1, b2_not, ite_self]
    rw [if_neg (by omega)]
    rw [sg_230_20]
    unfold sfAt at hp
    simp only [Bool.or_eq_false_iff, decide_eq_false_iff_not, Bool.not_eq_false'] at hp
    obtain ⟨⟨⟨p1, p2⟩, p3⟩, p4⟩ := hp
    rcases hc with hc | hc
    · exact absurd hc p1
    · simp (disch := first | assumption | omega) only [sg_230_63, sp_229, sg_230_43, sp_221, sg_230_55, sp_228k hK, sg_230_58, Int.add_zero, jI_nat, jI_add, jI_sub, jI_mul, jI_neg, jI_lt, jI_le, jI_eq, jI_lt0, jI_0lt, jI_le0, jI_0le, jI_eq0, jI_in, jI_dv, i_mod, zk_l, zk_r, Option.toList_some, Option.toList_none, List.cons_append, List.nil_append, zrokB, zrokB0, zrokB1, zrokJ0, zrokJ1, and_true, true_and, and_self, if_true, if_false, b2_0, b2_1, b2_not, ite_self]
      simp only [p1, p2, p3, p4, if_false, Bool.true_eq_false]
      rfl
  · intro v
    try simp only
    rw [sg_230_3]
    simp (disch := first | assumption | omega) only [sp_225k hK, sg_230_10, Int.add_zero, jI_nat, jI_add, jI_sub, jI_mul, jI_neg, jI_lt, jI_le, jI_eq, jI_lt0, jI_0lt, jI_le0, jI_0le, jI_eq0, jI_in, jI_dv, i_mod, zk_l, zk_r, Option.toList_some, Option.toList_none, List.cons_append, List.nil_append, zrokB, zrokB0, zrokB1, zrokJ0, zrokJ1, and_true, true_and, and_self, if_true, if_false, b2_0, b2_1, b2_not, ite_self]
    rw [if_pos (by omega)]
    rfl
theorem sp_232 {c own k : Int} (h2 : 0 ≤ c) (h3 : c < 3) (k0 : 0 ≤ k) (k1 : k < 24) (w1 : -1 ≤ own) (w2 : own < 40) (hp0 : -1 ≤ J 355 (400 + 24 * c + k)) (hp1 : J 355 (400 + 24 * c + k) < 40) (cp : Bool) :
    wz W 232 0 [.ref 353, .int (jI c), .int (jI k), .int (jI own), .int (b2 cp), .float 0, .float 0] [] (jm J) Q = Q (oI (prc (J 355) c own cp k)) (jm J) := by
  rw [sg_232_0]
  simp (disch := first | assumption | omega) only [sp_226, sg_232_6, sg_232_20, sg_232_25, sg_232_55, Int.add_zero, jI_nat, jI_add, jI_sub, jI_mul, jI_neg, jI_lt, jI_le, jI_eq, jI_lt0, jI_0lt, jI_le0, jI_0le, jI_eq0, jI_in, jI_dv, i_mod, zk_l, zk_r, Option.toList_some, Option.toList_none, List.cons_append, List.nil_append, zrokB, zrokB0, zrokB1, zrokJ0, zrokJ1, and_true, true_and, and_self, if_true, if_false, b2_0, b2_1, b2_not, ite_self]
  unfold prc
  generalize J 355 (400 + 24 * c + k) = p at *
  by_cases h1 : p = -1
  · simp only [h1, true_or, if_true]
    cases cp <;> rfl
  · by_cases h2 : p = own
    · simp only [h1, h2, or_true, if_true, if_false]
      cases cp <;> simp only [ite_self] <;> rfl
    · simp only [h1, h2, or_self, if_false]
      cases cp <;> rfl
/-- the cells of chamber c hold small numbers -/
def smC (s : Int → Int) (c : Int) : Prop := ∀ k, 0 ≤ k → k < 24 → -1 ≤ s (400 + 24 * c + k) ∧ s (400 + 24 * c + k) < 40
theorem ok_smC {s : Int → Int} (hL : okL s) (hP : okP s) (hA : s 6 ≤ 40) {c : Int} (h0 : 0 ≤ c) (h1 : c < 3) : smC s c := by
  intro k k0 k1
  have := ok_cell hL hP h0 h1 k0 k1
  omega
theorem zloopG {α β γ : Type} {f : Nat → α → β → γ} (st : Nat → α → α) (a : α) (n : Nat) (v : β) (h : ∀ k v, k < n → ∃ v', f k (zfold st a k) v = f (k + 1) (st k (zfold st a k)) v') : ∃ v', f 0 a v = f n (zfold st a n) v' := by
  induction n with
  | zero => exact ⟨v, rfl⟩
  | succ n ih =>
    obtain ⟨v', e⟩ := ih (fun k v hk => h k v (by omega))
    obtain ⟨v2, e2⟩ := h n v' (by omega)
    exact ⟨v2, e.trans e2⟩
set_option maxHeartbeats 1000000 in
/-- one row of tries -/
theorem sp_231r (hK : okK (J 355)) {c own : Int} (h2 : 0 ≤ c) (h3 : c < J 355 4) (hC : smC (J 355) c) (w1 : -1 ≤ own) (w2 : own < 40) (cp : Bool) {c0 x0 : Int → Int} {a : Nat} (ha : a < nC (J 355) c) {q : (Int → Int) × Bool}
    (hq : spR (nb (gC (J 355) c)) (nC (J 355) c) c0 (prc (J 355) c own cp) x0 q) (v7 : Value) : ∃ v7', (fun Q : zO → zI → Prop => wz W 231 27 [.ref 353, .int (jI c), .int (jI own), .int (b2 cp), .int (b2 q.2), .int (jI a), .int (jI 0), v7] [] (jm (jrow J 358 q.1)) Q) =
      (fun Q : zO → zI → Prop => wz W 231 27 [.ref 353, .int (jI c), .int (jI own), .int (b2 cp), .int (b2 (rrow (nb (gC (J 355) c)) (prc (J 355) c own cp) (nC (J 355) c) a q).2), .int (jI a), .int (jI (nC (J 355) c)), v7'] [] (jm (jrow J 358 (rrow (nb (gC (J 355) c)) (prc (J 355) c own cp) (nC (J 355) c) a q).1)) Q) := by
  obtain ⟨e, n1, n2, r1, r2, c1, c2, c3⟩ := nC_eq hK h2 h3
  generalize hs : J 355 = s at *
  generalize hn : nC s c = n at *
  have hv : ∀ k, 0 ≤ k → k < (n : Int) → -1 ≤ prc s c own cp k ∧ prc s c own cp k ≤ 1 := fun k _ _ => prc_bd s c own cp k
  refine zloopG (f := fun b (q : (Int → Int) × Bool) v => (fun Q : zO → zI → Prop => wz W 231 27 [.ref 353, .int (jI c), .int (jI own), .int (b2 cp), .int (b2 q.2), .int (jI a), .int (jI b), v] [] (jm (jrow J 358 q.1)) Q)) (fun b q => rst (nb (gC s c)) (prc s c own cp) a b q) q n v7 (fun b v hb => ⟨.int (jI (prc s c own cp b)), funext fun Q => ?_⟩)
  have hR := rrow_R (a := (a : Int)) (by omega) hv (by omega) (by omega) hq b (by omega)
  generalize zfold (fun b q => rst (nb (gC s c)) (prc s c own cp) (↑a) (↑b) q) q b = q1 at hR
  obtain ⟨x, m⟩ := q1
  obtain ⟨⟨hI, hB⟩, -⟩ := hR
  have hcst := cst_le x n
  have ba : -1 ≤ x a ∧ x a ≤ cst x n := hB a (by omega) (by omega)
  have bb : -1 ≤ x b ∧ x b ≤ cst x n := hB b (by omega) (by omega)
  have hp := prc_bd s c own cp b
  have hcb := hC b (by omega) (by omega)
  have e5 : jrow J 358 x 355 = s := by rw [jrow_ne (by decide), hs]
  have e8 : jrow J 358 x 358 = x := jrow_same
  have h225 : ∀ Q : zO → zI → Prop, wz W 225 0 [.ref 353, .int (jI c)] [] (jm (jrow J 358 x)) Q = Q (oI n) (jm (jrow J 358 x)) := fun Q => by
    rw [sp_225k (J := jrow J 358 x) (by rw [e5]; exact hK) h2 (by rw [e5]; exact h3), e5, hn]
  have h232 : ∀ Q : zO → zI → Prop, wz W 232 0 [.ref 353, .int (jI c), .int (jI b), .int (jI own), .int (b2 cp), .float 0, .float 0] [] (jm (jrow J 358 x)) Q = Q (oI (prc s c own cp b)) (jm (jrow J 358 x)) := fun Q => by
    rw [sp_232 (J := jrow J 358 x) h2 c3 (by omega) (by omega) w1 w2 (by rw [e5]; exact hcb.1) (by rw [e5]; exact hcb.2), e5]
  have h229 : ∀ Q : zO → zI → Prop, wz W 229 0 [.ref 353, .int (jI c), .int (jI a), .int (jI b), .float 0] [] (jm (jrow J 358 x)) Q = Q (oB (nb (gC s c) a b)) (jm (jrow J 358 x)) := fun Q => by
    rw [sp_229 (J := jrow J 358 x) h2 c3 (by omega) (by omega) (by omega) (by omega) (by rw [e5]; exact c1) (by rw [e5]; exact c2), e5]
  try simp only
  rw [sg_231_27, h225]
  simp only [zk_l, zk_r, Option.toList_some, Option.toList_none, List.cons_append, List.nil_append, zrokB, zrokB0, zrokB1, zrokJ0, zrokJ1, and_true, true_and, and_self, if_true, if_false, b2_0, b2_1, b2_not, ite_self]
  rw [sg_231_34, if_neg (by rw [jI_le (by omega) (by omega) (by omega) (by omega)]; omega), h232]
  simp only [zk_l, zk_r, Option.toList_some, Option.toList_none, List.cons_append, List.nil_append, zrokB, zrokB0, zrokB1, zrokJ0, zrokJ1, and_true, true_and, and_self, if_true, if_false, b2_0, b2_1, b2_not, ite_self]
  rw [sg_231_46]
  simp (disch := first | assumption | omega) only [Int.add_zero, jI_nat, jI_add, jI_sub, jI_mul, jI_neg, jI_lt, jI_le, jI_eq, jI_lt0, jI_0lt, jI_le0, jI_0le, jI_eq0, jI_in, jI_dv, i_mod, jI_cl, jm_n, jz_n, i_lit, i_c0, i_c1, Int.toNat_of_nonneg, Int.toNat_natCast, jrow_same, jrow_ne, jrow_jrow, sset_eq, sset_ne, zk_l, zk_r, Option.toList_some, Option.toList_none, List.cons_append, List.nil_append, zrokB, zrokB0, zrokB1, zrokJ0, zrokJ1, and_true, true_and, and_self, if_true, if_false, b2_0, b2_1, b2_not, ite_self]
  unfold rst
  try simp only
  by_cases f1 : x a = -1
  · rw [if_pos f1, if_neg (fun h => h.1 f1), sg_231_128, jI_add]
    rfl
  rw [if_neg f1]
  by_cases f2 : prc s c own cp b = -1
  · rw [if_pos f2, if_neg (fun h => h.2.1 f2), sg_231_128, jI_add]
    rfl
  rw [if_neg f2, h229]
  simp only [zk_l, zk_r, Option.toList_some, Option.toList_none, List.cons_append, List.nil_append, zrokB, zrokB0, zrokB1, zrokJ0, zrokJ1, and_true, true_and, and_self, if_true, if_false, b2_0, b2_1, b2_not, ite_self]
  rw [sg_231_74]
  simp (disch := first | assumption | omega) only [Int.add_zero, jI_nat, jI_add, jI_sub, jI_mul, jI_neg, jI_lt, jI_le, jI_eq, jI_lt0, jI_0lt, jI_le0, jI_0le, jI_eq0, jI_in, jI_dv, i_mod, jI_cl, jm_n, jz_n, i_lit, i_c0, i_c1, Int.toNat_of_nonneg, Int.toNat_natCast, jrow_same, jrow_ne, jrow_jrow, sset_eq, sset_ne, zk_l, zk_r, Option.toList_some, Option.toList_none, List.cons_append, List.nil_append, zrokB, zrokB0, zrokB1, zrokJ0, zrokJ1, and_true, true_and, and_self, if_true, if_false, b2_0, b2_1, b2_not, ite_self]
  by_cases f3 : nb (gC s c) a b = true
  · rw [if_neg (by rw [f3]; decide)]
    by_cases f4 : x b = -1
    · rw [if_pos f4, if_pos ⟨f1, f2, f3, Or.inl f4⟩, sg_231_108]
      simp (disch := first | assumption | omega) only [sg_231_128, Int.add_zero, jI_nat, jI_add, jI_sub, jI_mul, jI_neg, jI_lt, jI_le, jI_eq, jI_lt0, jI_0lt, jI_le0, jI_0le, jI_eq0, jI_in, jI_dv, i_mod, jI_cl, jm_n, jz_n, i_lit, i_c0, i_c1, Int.toNat_of_nonneg, Int.toNat_natCast, jrow_same, jrow_ne, jrow_jrow, sset_eq, sset_ne, zk_l, zk_r, Option.toList_some, Option.toList_none, List.cons_append, List.nil_append, zrokB, zrokB0, zrokB1, zrokJ0, zrokJ1, and_true, true_and, and_self, if_true, if_false, b2_0, b2_1, b2_not, ite_self]
      rfl
    · rw [if_neg f4]
      by_cases f5 : x b ≤ x a + prc s c own cp b
      · rw [if_pos f5, if_neg (fun h => by rcases h.2.2.2 with h9 | h9; exact f4 h9; omega), sg_231_128, jI_add]
        rfl
      · rw [if_neg f5, if_pos ⟨f1, f2, f3, Or.inr (by omega)⟩, sg_231_108]
        simp (disch := first | assumption | omega) only [sg_231_128, Int.add_zero, jI_nat, jI_add, jI_sub, jI_mul, jI_neg, jI_lt, jI_le, jI_eq, jI_lt0, jI_0lt, jI_le0, jI_0le, jI_eq0, jI_in, jI_dv, i_mod, jI_cl, jm_n, jz_n, i_lit, i_c0, i_c1, Int.toNat_of_nonneg, Int.toNat_natCast, jrow_same, jrow_ne, jrow_jrow, sset_eq, sset_ne, zk_l, zk_r, Option.toList_some, Option.toList_none, List.cons_append, List.nil_append, zrokB, zrokB0, zrokB1, zrokJ0, zrokJ1, and_true, true_and, and_self, if_true, if_false, b2_0, b2_1, b2_not, ite_self]
        rfl
  · rw [if_pos (by simpa using f3), if_neg (fun h => f3 h.2.2.1), sg_231_128, jI_add]
    rfl
set_option maxHeartbeats 1000000 in
theorem sp_231 (hK : okK (J 355)) {c own : Int} (h2 : 0 ≤ c) (h3 : c < J 355 4) (hC : smC (J 355) c) (w1 : -1 ≤ own) (w2 : own < 40) (cp : Bool) {c0 : Int → Int} : ∀ (m : Nat) (x0 : Int → Int), wgt x0 (nC (J 355) c) < m → spJ (nb (gC (J 355) c)) (nC (J 355) c) c0 (prc (J 355) c own cp) x0 →
    ∀ v5 v6 v7 : Value, ∃ x', least (nb (gC (J 355) c)) (nC (J 355) c) c0 (prc (J 355) c own cp) x' ∧ (∀ k, 0 ≤ k → k < (nC (J 355) c : Int) → -1 ≤ x' k ∧ x' k ≤ 24) ∧ ∀ Q : zO → zI → Prop, wz W 231 3 [.ref 353, .int (jI c), .int (jI own), .int (b2 cp), .int (b2 true), v5, v6, v7] [] (jm (jrow J 358 x0)) Q = Q oV (jm (jrow J 358 x')) := by
  obtain ⟨e, n1, n2, r1, r2, c1, c2, c3⟩ := nC_eq hK h2 h3
  have hv : ∀ k, 0 ≤ k → k < (nC (J 355) c : Int) → -1 ≤ prc (J 355) c own cp k ∧ prc (J 355) c own cp k ≤ 1 := fun k _ _ => prc_bd (J 355) c own cp k
  intro m
  induction m with
  | zero => intro x0 h; omega
  | succ m ih =>
    intro x0 hw hJ v5 v6 v7
    have h225 : ∀ (x : Int → Int) (Q : zO → zI → Prop), wz W 225 0 [.ref 353, .int (jI c)] [] (jm (jrow J 358 x)) Q = Q (oI (nC (J 355) c)) (jm (jrow J 358 x)) := fun x Q => by
      have e5 : jrow J 358 x 355 = J 355 := jrow_ne (by decide)
      rw [sp_225k (J := jrow J 358 x) (by rw [e5]; exact hK) h2 (by rw [e5]; exact h3), e5]
    have hloop : ∃ v' : Value × Value, (fun Q : zO → zI → Prop => wz W 231 14 [.ref 353, .int (jI c), .int (jI own), .int (b2 cp), .int (b2 false), .int (jI 0), v6, v7] [] (jm (jrow J 358 x0)) Q) = (fun Q : zO → zI → Prop => wz W 231 14 [.ref 353, .int (jI c), .int (jI own), .int (b2 cp), .int (b2 (rpass (nb (gC (J 355) c)) (prc (J 355) c own cp) (nC (J 355) c) x0).2), .int (jI (nC (J 355) c)), v'.1, v'.2] [] (jm (jrow J 358 (rpass (nb (gC (J 355) c)) (prc (J 355) c own cp) (nC (J 355) c) x0).1)) Q) :=
      zloopG (f := fun a (q : (Int → Int) × Bool) (v : Value × Value) => (fun Q : zO → zI → Prop => wz W 231 14 [.ref 353, .int (jI c), .int (jI own), .int (b2 cp), .int (b2 q.2), .int (jI a), v.1, v.2] [] (jm (jrow J 358 q.1)) Q))
      (fun a q => rrow (nb (gC (J 355) c)) (prc (J 355) c own cp) (nC (J 355) c) a q) (x0, false) (nC (J 355) c) (v6, v7) (fun a v ha => by
        have hR := rpass_R (by omega) hv hJ a (by omega)
        generalize zfold (fun a q => rrow (nb (gC (J 355) c)) (prc (J 355) c own cp) (nC (J 355) c) (↑a) q) (x0, false) a = q1 at hR
        obtain ⟨v7', e⟩ := sp_231r (W := W) hK h2 h3 hC w1 w2 cp ha hR v.2
        refine ⟨(.int (jI (nC (J 355) c)), v7'), funext fun Q => ?_⟩
        try simp only
        rw [sg_231_14, h225]
        simp only [zk_l, zk_r, Option.toList_some, Option.toList_none, List.cons_append, List.nil_append, zrokB, zrokB0, zrokB1, zrokJ0, zrokJ1, and_true, true_and, and_self, if_true, if_false, b2_0, b2_1, b2_not, ite_self]
        rw [sg_231_21, if_neg (by rw [jI_le (by omega) (by omega) (by omega) (by omega)]; omega)]
        refine (congrFun e Q).trans ?_
        rw [sg_231_27, h225]
        simp only [zk_l, zk_r, Option.toList_some, Option.toList_none, List.cons_append, List.nil_append, zrokB, zrokB0, zrokB1, zrokJ0, zrokJ1, and_true, true_and, and_self, if_true, if_false, b2_0, b2_1, b2_not, ite_self]
        rw [sg_231_34, if_pos (by rw [jI_le (by omega) (by omega) (by omega) (by omega)]; omega), jI_add]
        rfl)
    have hfin := rpass_R (adj := nb (gC (J 355) c)) (c0 := c0) (by omega) hv hJ (nC (J 355) c) (Nat.le_refl _)
    have hF := rpass_F (adj := nb (gC (J 355) c)) (v := prc (J 355) c own cp) (n := nC (J 355) c) (x0 := x0)
    have e0 : zfold (fun (a : Nat) q => rrow (nb (gC (J 355) c)) (prc (J 355) c own cp) (nC (J 355) c) a q) (x0, false) (nC (J 355) c) = rpass (nb (gC (J 355) c)) (prc (J 355) c own cp) (nC (J 355) c) x0 := rfl
    rw [e0] at hfin
    generalize rpass (nb (gC (J 355) c)) (prc (J 355) c own cp) (nC (J 355) c) x0 = q1 at hloop hfin hF
    obtain ⟨x1, fl⟩ := q1
    have e2 : ∀ (Q : zO → zI → Prop) (v : Value × Value), wz W 231 14 [.ref 353, .int (jI c), .int (jI own), .int (b2 cp), .int (b2 fl), .int (jI (nC (J 355) c)), v.1, v.2] [] (jm (jrow J 358 x1)) Q = wz W 231 3 [.ref 353, .int (jI c), .int (jI own), .int (b2 cp), .int (b2 fl), .int (jI (nC (J 355) c)), v.1, v.2] [] (jm (jrow J 358 x1)) Q := fun Q v => by
      rw [sg_231_14, h225]
      simp only [zk_l, zk_r, Option.toList_some, Option.toList_none, List.cons_append, List.nil_append, zrokB, zrokB0, zrokB1, zrokJ0, zrokJ1, and_true, true_and, and_self, if_true, if_false, b2_0, b2_1, b2_not, ite_self]
      rw [sg_231_21, if_pos (by rw [jI_le (by omega) (by omega) (by omega) (by omega)]; omega)]
    obtain ⟨v', e1⟩ := hloop
    cases fl with
    | false =>
      obtain ⟨g1, g2⟩ := hF rfl
      try simp only at g1
      subst g1
      refine ⟨x1, spF_least hJ.1 g2, fun k k0 k1 => ?_, fun Q => ?_⟩
      · have := hJ.2 k k0 k1
        have := cst_le x1 (nC (J 355) c)
        omega
      · rw [sg_231_3, if_neg (by decide)]
        refine (congrFun e1 Q).trans ((e2 Q v').trans ?_)
        rw [sg_231_3, if_pos (by decide)]
    | true =>
      obtain ⟨g1, g2, g3, g4⟩ := hfin
      have g5 := g3 rfl
      try simp only at g5 g1
      obtain ⟨x', a1, a2, a3⟩ := ih x1 (by omega) g1 (.int (jI (nC (J 355) c))) v'.1 v'.2
      refine ⟨x', a1, a2, fun Q => ?_⟩
      rw [sg_231_3, if_neg (by decide)]
      exact (congrFun e1 Q).trans ((e2 Q v').trans (a3 Q))
/-- the costs at the doors -/
def dc0 (s : Int → Int) (c own : Int) (cp : Bool) (k : Int) : Int := if drs s c k = true then prc s c own cp k else -1
theorem cst_1 {x : Int → Int} {k : Int} (h0 : 0 ≤ k) (hx : x k ≠ -1) : ∀ n : Nat, k < n → 1 ≤ cst x n := by
  intro n
  induction n with
  | zero => intro h; omega
  | succ n ih =>
    intro h
    unfold cst
    by_cases e : k = n
    · subst e; rw [if_neg hx]; omega
    · have := ih (by omega); omega
/-- the first n places of x, behind them y -/
def spre (x y : Int → Int) (n : Int) : Int → Int := fun k => if 0 ≤ k ∧ k < n then x k else y k
theorem spre_0 {x y : Int → Int} : spre x y 0 = y := by
  funext k
  unfold spre
  rw [if_neg (by omega)]
theorem spre_s {x y : Int → Int} {k : Nat} : sset (spre x y k) k (x k) = spre x y ((k + 1 : Nat) : Int) := by
  funext j
  unfold sset spre
  by_cases h : j = k
  · rw [if_pos h, if_pos (by omega), h]
  · rw [if_neg h]
    by_cases h2 : 0 ≤ j ∧ j < k
    · rw [if_pos h2, if_pos (by omega)]
    · rw [if_neg h2, if_neg (by omega)]
theorem spre_in {x y : Int → Int} {n k : Int} (h0 : 0 ≤ k) (h1 : k < n) : spre x y n k = x k := if_pos ⟨h0, h1⟩
theorem least_cg {adj : Int → Int → Bool} {n : Int} {c0 v x y : Int → Int} (h : least adj n c0 v x) (e : ∀ k, 0 ≤ k → k < n → y k = x k) : least adj n c0 v y := by
  intro k h0 h1
  rw [e k h0 h1]
  exact h k h0 h1
theorem rc_cg {adj : Int → Int → Bool} {n : Int} {c0 c0' v : Int → Int} (e : ∀ k, 0 ≤ k → k < n → c0' k = c0 k) : ∀ (t : Nat) (k y : Int), rc adj n c0 v t k y → rc adj n c0' v t k y := by
  intro t
  induction t with
  | zero =>
    intro k y h
    obtain ⟨h0, h1, h2, h3⟩ := h
    exact ⟨h0, h1, by rw [e k h0 h1]; exact h2, by rw [e k h0 h1]; exact h3⟩
  | succ t ih =>
    intro k y h
    obtain ⟨j, z, h1, h2⟩ := h
    exact ⟨j, z, ih j z h1, h2⟩
theorem spJ_start {adj : Int → Int → Bool} {n : Nat} {c0 v x : Int → Int} (e : ∀ k, 0 ≤ k → k < (n : Int) → x k = c0 k) (hb : ∀ k, 0 ≤ k → k < (n : Int) → -1 ≤ c0 k ∧ c0 k ≤ 1) : spJ adj n c0 v x := by
  refine ⟨fun k k0 k1 => ⟨fun h => ?_, fun h => ?_⟩, fun k k0 k1 => ?_⟩
  · have := hb k k0 k1
    rw [e k k0 k1] at h ⊢
    exact ⟨by omega, 0, k0, k1, h, rfl⟩
  · rw [e k k0 k1]
    exact ⟨h, Int.le_refl _⟩
  · have h1 := hb k k0 k1
    rw [← e k k0 k1] at h1
    refine ⟨h1.1, ?_⟩
    by_cases h : x k = -1
    · omega
    · have := cst_1 k0 h n k1
      omega
set_option maxHeartbeats 1000000 in
theorem sp_233 (hK : okK (J 355)) {c own : Int} (h2 : 0 ≤ c) (h3 : c < J 355 4) (hC : smC (J 355) c) (w1 : -1 ≤ own) (w2 : own < 40) (cp : Bool) :
    ∃ x', least (nb (gC (J 355) c)) (nC (J 355) c) (dc0 (J 355) c own cp) (prc (J 355) c own cp) x' ∧ (∀ k, 0 ≤ k → k < (nC (J 355) c : Int) → -1 ≤ x' k ∧ x' k ≤ 24) ∧ ∀ Q : zO → zI → Prop, wz W 233 0 [.ref 353, .int (jI c), .int (jI own), .int (b2 cp), .float 0] [] (jm J) Q = Q oV (jm (jrow J 358 x')) := by
  obtain ⟨e, n1, n2, r1, r2, c1, c2, c3⟩ := nC_eq hK h2 h3
  have h225 : ∀ (x : Int → Int) (Q : zO → zI → Prop), wz W 225 0 [.ref 353, .int (jI c)] [] (jm (jrow J 358 x)) Q = Q (oI (nC (J 355) c)) (jm (jrow J 358 x)) := fun x Q => by
    have e5 : jrow J 358 x 355 = J 355 := jrow_ne (by decide)
    rw [sp_225k (J := jrow J 358 x) (by rw [e5]; exact hK) h2 (by rw [e5]; exact h3), e5]
  have h232 : ∀ (k : Nat) (x : Int → Int) (Q : zO → zI → Prop), k < nC (J 355) c → wz W 232 0 [.ref 353, .int (jI c), .int (jI k), .int (jI own), .int (b2 cp), .float 0, .float 0] [] (jm (jrow J 358 x)) Q = Q (oI (prc (J 355) c own cp k)) (jm (jrow J 358 x)) := fun k x Q hk => by
    have e5 : jrow J 358 x 355 = J 355 := jrow_ne (by decide)
    have hcb := hC k (by omega) (by omega)
    rw [sp_232 (J := jrow J 358 x) h2 c3 (by omega) (by omega) w1 w2 (by rw [e5]; exact hcb.1) (by rw [e5]; exact hcb.2), e5]
  have hbd : ∀ k, -1 ≤ dc0 (J 355) c own cp k ∧ dc0 (J 355) c own cp k ≤ 1 := by
    intro k
    unfold dc0
    have := prc_bd (J 355) c own cp k
    split <;> omega
  have loop : ∀ Q : zO → zI → Prop, wz W 233 3 [.ref 353, .int (jI c), .int (jI own), .int (b2 cp), .int (jI 0)] [] (jm (jrow J 358 (spre (dc0 (J 355) c own cp) (J 358) 0))) Q = wz W 233 3 [.ref 353, .int (jI c), .int (jI own), .int (b2 cp), .int (jI (nC (J 355) c))] [] (jm (jrow J 358 (spre (dc0 (J 355) c own cp) (J 358) (nC (J 355) c)))) Q := fun Q => zloop (f := fun k => wz W 233 3 [.ref 353, .int (jI c), .int (jI own), .int (b2 cp), .int (jI k)] [] (jm (jrow J 358 (spre (dc0 (J 355) c own cp) (J 358) k))) Q) (nC (J 355) c) (fun k hk9 => by
    try simp only
    rw [sg_233_3, h225]
    simp only [zk_l, zk_r, Option.toList_some, Option.toList_none, List.cons_append, List.nil_append, zrokB, zrokB0, zrokB1, zrokJ0, zrokJ1, and_true, true_and, and_self, if_true, if_false, b2_0, b2_1, b2_not, ite_self]
    rw [sg_233_10, if_neg (by rw [jI_le (by omega) (by omega) (by omega) (by omega)]; omega), sp_219 (by omega) (by omega) h2 (by omega)]
    simp only [zk_l, zk_r, Option.toList_some, Option.toList_none, List.cons_append, List.nil_append, zrokB, zrokB0, zrokB1, zrokJ0, zrokJ1, and_true, true_and, and_self, if_true, if_false, b2_0, b2_1, b2_not, ite_self]
    rw [sg_233_26 (hqt0 := za_358), sp_177 (by omega) (by omega)]
    simp only [zk_l, zk_r, Option.toList_some, Option.toList_none, List.cons_append, List.nil_append, zrokB, zrokB0, zrokB1, zrokJ0, zrokJ1, and_true, true_and, and_self, if_true, if_false, b2_0, b2_1, b2_not, ite_self]
    have e5 : jrow J 358 (spre (dc0 (J 355) c own cp) (J 358) k) 355 = J 355 := jrow_ne (by decide)
    have e9 : dc0 (J 355) c own cp k = if drs (J 355) c k = true then prc (J 355) c own cp k else -1 := rfl
    rw [sg_233_31 (hqt0 := za_358), e5]
    have ed : bt (jI (J 355 (12 + 8 * c + 6))) (k : Int).toNat = drs (J 355) c k := rfl
    rw [ed, ← spre_s]
    cases hb : drs (J 355) c k with
    | false =>
      rw [hb, if_neg (by decide)] at e9
      rw [if_pos (by decide), sg_233_47 (hqt0 := za_358), e9]
      simp (disch := first | assumption | omega) only [zk_l, zk_r, Option.toList_some, Option.toList_none, List.cons_append, List.nil_append, zrokB, zrokB0, zrokB1, zrokJ0, zrokJ1, and_true, true_and, and_self, if_true, if_false, b2_0, b2_1, b2_not, ite_self, Int.add_zero, jI_nat, jI_add, jI_sub, jI_mul, jI_neg, jI_lt, jI_le, jI_eq, jI_lt0, jI_0lt, jI_le0, jI_0le, jI_eq0, jI_in, jI_dv, i_mod, jI_cl, jm_n, jz_n, i_lit, i_c0, i_c1, Int.toNat_of_nonneg, Int.toNat_natCast, jrow_same, jrow_ne, jrow_jrow, sset_eq, sset_ne]
      rfl
    | true =>
      rw [hb, if_pos rfl] at e9
      rw [if_neg (by decide), h232 k _ _ hk9]
      simp only [zk_l, zk_r, Option.toList_some, Option.toList_none, List.cons_append, List.nil_append, zrokB, zrokB0, zrokB1, zrokJ0, zrokJ1, and_true, true_and, and_self, if_true, if_false, b2_0, b2_1, b2_not, ite_self]
      rw [sg_233_43 (hqt0 := za_358), sg_233_47 (hqt0 := za_358), e9]
      simp (disch := first | assumption | omega) only [zk_l, zk_r, Option.toList_some, Option.toList_none, List.cons_append, List.nil_append, zrokB, zrokB0, zrokB1, zrokJ0, zrokJ1, and_true, true_and, and_self, if_true, if_false, b2_0, b2_1, b2_not, ite_self, Int.add_zero, jI_nat, jI_add, jI_sub, jI_mul, jI_neg, jI_lt, jI_le, jI_eq, jI_lt0, jI_0lt, jI_le0, jI_0le, jI_eq0, jI_in, jI_dv, i_mod, jI_cl, jm_n, jz_n, i_lit, i_c0, i_c1, Int.toNat_of_nonneg, Int.toNat_natCast, jrow_same, jrow_ne, jrow_jrow, sset_eq, sset_ne]
      rfl)
  have e0 : jrow J 358 (spre (dc0 (J 355) c own cp) (J 358) 0) = J := by rw [spre_0, jrow_id]
  rw [e0] at loop
  obtain ⟨x', a1, a2, a3⟩ := sp_231 (W := W) hK h2 h3 hC w1 w2 cp (c0 := dc0 (J 355) c own cp) (wgt (spre (dc0 (J 355) c own cp) (J 358) (nC (J 355) c)) (nC (J 355) c) + 1) (spre (dc0 (J 355) c own cp) (J 358) (nC (J 355) c)) (by omega) (spJ_start (fun k k0 k1 => spre_in k0 k1) (fun k _ _ => hbd k)) (.float 0) (.float 0) (.float 0)
  refine ⟨x', a1, a2, fun Q => ?_⟩
  rw [sg_233_0]
  refine (loop Q).trans ?_
  rw [sg_233_3, h225]
  simp only [zk_l, zk_r, Option.toList_some, Option.toList_none, List.cons_append, List.nil_append, zrokB, zrokB0, zrokB1, zrokJ0, zrokJ1, and_true, true_and, and_self, if_true, if_false, b2_0, b2_1, b2_not, ite_self]
  rw [sg_233_10, if_pos (by rw [jI_le (by omega) (by omega) (by omega) (by omega)]; omega), sg_231_0]
  refine (a3 _).trans ?_
  simp only [sg_233_61, zk_l, zk_r, Option.toList_some, Option.toList_none, List.cons_append, List.nil_append, zrokB, zrokB0, zrokB1, zrokJ0, zrokJ1, and_true, true_and, and_self, if_true, if_false, b2_0, b2_1, b2_not, ite_self]
end
