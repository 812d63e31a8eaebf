/-! ===== autoStore ===== -/
def ast (s : Int → Int) : Nat → (Int → Int) × Nat
  | 0 => (s, 0)
  | i + 1 => if (bsT (ast s i).1 (s (392 + (i : Int))) ((ast s i).1 4).toNat).1 = -1 then ast s i else (fStore (ast s i).1 (s (392 + (i : Int))) ((bsT (ast s i).1 (s (392 + (i : Int))) ((ast s i).1 4).toNat).1 / 24) ((bsT (ast s i).1 (s (392 + (i : Int))) ((ast s i).1 4).toNat).1 % 24), (ast s i).2 + 1)
theorem ast_0 (s : Int → Int) : ∀ i : Nat, (ast s i).2 = 0 → (ast s i).1 = s := by
  intro i
  induction i with
  | zero => intro _; rfl
  | succ i ih =>
    unfold ast
    split
    · exact ih
    · intro h
      exact absurd h (Nat.succ_ne_zero _)
theorem fStore_at {t : Int → Int} {p c ce : Int} (a6 : t 8 ≤ 8) (p0 : 0 ≤ p) (p1 : p < 40) (c0 : 0 ≤ c) (c1 : c < 3) (e0 : 0 ≤ ce) (e1 : ce < 24) : (∀ j, (j = 8 ∨ (392 ≤ j ∧ j < 400)) → fStore t p c ce j = fLv t p j) ∧ fStore t p c ce 6 = t 6 ∧ ∀ q, 0 ≤ q → q < 40 → q ≠ p → fStore t p c ce (72 + 7 * q + 2) = t (72 + 7 * q + 2) := by
  have h : ∀ j, j ≠ 12 + 8 * c + 5 → j ≠ 400 + 24 * c + ce → j ≠ 72 + 7 * p + 3 → j ≠ 72 + 7 * p + 2 → fStore t p c ce j = fLv t p j := by
    intro j h1 h2 h3 h4
    unfold fStore fOpen
    rw [sset_ne h1]
    unfold fPut
    rw [sset_ne h4, sset_ne h3, sset_ne h2]
  refine ⟨fun j hj => h j (by omega) (by omega) (by omega) (by omega), ?_, fun q q0 q1 hq => ?_⟩
  · rw [h 6 (by omega) (by omega) (by omega) (by omega), fLv_ne a6 (by omega)]
  · rw [h _ (by omega) (by omega) (by omega) (by omega), fLv_ne a6 (by omega)]
section
variable {k D : Int} {s : Int → Int}
theorem ast_ok (hK : okK s) (hD : okD D k s) : ∀ i : Nat, (i : Int) ≤ s 8 → same s (ast s i).1 ∧ okD D (k + (ast s i).2) (ast s i).1 ∧ (ast s i).2 ≤ i ∧ (ast s i).1 8 = s 8 - (ast s i).2 ∧ (ast s i).1 6 = s 6 ∧ (∀ j : Int, i ≤ j → j < s 8 → (ast s i).1 (392 + (j - (ast s i).2)) = s (392 + j)) ∧ ∀ j : Int, i ≤ j → j < s 8 → (ast s i).1 (72 + 7 * s (392 + j) + 2) = 0 := by
  obtain ⟨a1, a2, a3, a4, a5, a6⟩ := hD.1
  obtain ⟨b1, b2x, b3, b4, b5, b6, b7, b8, b9, b10, b11, b12⟩ := hK.1
  have hQ := hD.2.2.2.2.2.2.1
  intro i
  induction i with
  | zero =>
    intro _
    refine ⟨same_refl s, okD_mono hD (Int.le_refl _) (by show k ≤ k + ((0 : Nat) : Int); omega), Nat.le_refl 0, by show s 8 = s 8 - ((0 : Nat) : Int); omega, rfl, fun j _ _ => ?_, fun j j0 j1 => (hQ.1 j (by omega) j1).2.2⟩
    show s (392 + (j - ((0 : Nat) : Int))) = s (392 + j)
    congr 1
    omega
  | succ i ih =>
    intro hi
    obtain ⟨h1, h2, h3, h4, h5, h6, h7⟩ := ih (by omega)
    have hst : ast s (i + 1) = if (bsT (ast s i).1 (s (392 + (i : Int))) ((ast s i).1 4).toNat).1 = -1 then ast s i else (fStore (ast s i).1 (s (392 + (i : Int))) ((bsT (ast s i).1 (s (392 + (i : Int))) ((ast s i).1 4).toNat).1 / 24) ((bsT (ast s i).1 (s (392 + (i : Int))) ((ast s i).1 4).toNat).1 % 24), (ast s i).2 + 1) := rfl
    rw [hst]
    generalize ast s i = r at *
    obtain ⟨t, m⟩ := r
    simp only at h1 h2 h3 h4 h5 h6 h7 ⊢
    by_cases c : (bsT t (s (392 + (i : Int))) (t 4).toNat).1 = -1
    · rw [if_pos c]
      exact ⟨h1, h2, by omega, h4, h5, fun j j0 j1 => h6 j (by omega) j1, fun j j0 j1 => h7 j (by omega) j1⟩
    · rw [if_neg c]
      simp only
      have hK' := okK_same hK h1
      have h14 : s 4 = t 4 := h1.2.2.2.1
      obtain ⟨u1, u2, u3⟩ := bsT_ok hK' (s (392 + (i : Int))) (t 4).toNat (by omega)
      generalize (bsT t (s (392 + (i : Int))) (t 4).toNat).1 = x at *
      obtain ⟨v1, v2, v3, v4⟩ : 0 ≤ x ∧ x / 24 < ((t 4).toNat : Int) ∧ x % 24 < nC t (x / 24) ∧ saB t (x / 24) (t (72 + 7 * s (392 + (i : Int)))) (x % 24) = true := by
        rcases u3 with h | h
        · exact absurd h c
        · exact h
      obtain ⟨q1, q2, q3⟩ := hQ.1 i (by omega) (by omega)
      have hp0 := h7 i (Int.le_refl _) (by omega)
      have hpi := h6 i (Int.le_refl _) (by omega)
      have hfr : t (400 + 24 * (x / 24) + x % 24) = -1 := by
        unfold saB frB at v4
        rw [Bool.and_eq_true] at v4
        exact of_decide_eq_true v4.1
      obtain ⟨w1, w2⟩ := store_ok hK' h2 (p := s (392 + (i : Int))) (c := x / 24) (cell := x % 24) q1 (by omega) hp0 (by omega) (by omega) (by omega) v3 hfr
      have hA := h2.1
      obtain ⟨y1, y2, y3⟩ := fStore_at (t := t) (p := s (392 + (i : Int))) (c := x / 24) (ce := x % 24) hA.2.2.2.2.2 q1 (by omega) (by omega) (by omega) (by omega) (by omega)
      have hQt := h2.2.2.2.2.2.2.1
      obtain ⟨z1, m0, z2, z3, z4, z5, z6⟩ := fLv_q (s := t) (p := s (392 + (i : Int))) hA.2.2.2.2.2 (okQ_at hQt q1 (by omega) hp0)
      have hm0 : m0 = i - m := by
        by_cases e1 : m0 < i - m
        · have := hQt.2.1 m0 (i - m) z2 e1 (by omega)
          rw [z4, hpi] at this
          exact absurd rfl this
        · by_cases e2 : i - m < m0
          · have := hQt.2.1 (i - m) m0 (by omega) e2 z3
            rw [z4, hpi] at this
            exact absurd rfl this
          · omega
      refine ⟨same_trans h1 w1, okD_mono w2 (Int.le_refl _) (by omega), by omega, ?_, y2.trans h5, fun j j0 j1 => ?_, fun j j0 j1 => ?_⟩
      · rw [y1 8 (Or.inl rfl), z1, h4]; omega
      · have e1 := h6 j (by omega) j1
        rw [y1 _ (by omega), z6 _ (by omega) (by omega), ← e1]
        congr 1
        omega
      · have hne : s (392 + j) ≠ s (392 + (i : Int)) := fun h => hQ.2.1 i j (by omega) (by omega) j1 h.symm
        obtain ⟨r1, r2, r3⟩ := hQ.1 j (by omega) j1
        rw [y3 _ r1 (by omega) hne]
        exact h7 j (by omega) j1
end
section
variable {W : zW} {k D : Int} {s : Int → Int}
/-- the class goes through the quay -/
theorem as_c {J0 : zJ} (h0 : CX J0 49 s D k) (hk : k + 8 ≤ 30000) : ∀ (n i : Nat), ((i + n : Nat) : Int) = s 8 → ∀ J : zJ, CX J 76 (ast s i).1 D (k + (ast s i).2) → (∀ r, (r < 76 ∨ 76 + 27 ≤ r) → J r = J0 r) → ∃ J', (∀ Q : zO → zI → Prop, wz W 109 15 [.ref 0, .int (jI (ast s i).2), .int (jI i)] [] (jm J) Q = wz W 109 15 [.ref 0, .int (jI (ast s (i + n)).2), .int (jI (i + n : Nat))] [] (jm J') Q) ∧ CX J' 76 (ast s (i + n)).1 D (k + (ast s (i + n)).2) ∧ ∀ r, (r < 76 ∨ 76 + 27 ≤ r) → J' r = J0 r := by
  have hD0 := h0.2.2.2.2.1
  have hK0 := h0.2.2.2.1
  have hS0 := h0.2.1
  have hQ := hD0.2.2.2.2.2.2.1
  obtain ⟨a1, a2, a3, a4, a5, a6⟩ := hD0.1
  intro n
  induction n with
  | zero =>
    intro i hi J hx hf
    exact ⟨J, fun Q => rfl, hx, hf⟩
  | succ n ih =>
    intro i hi J hx hf
    obtain ⟨h1, h2, h3, h4, h5, h6, h7⟩ := ast_ok hK0 hD0 i (by omega)
    obtain ⟨w1, w2, w3, w4, w5, w6, w7⟩ := ast_ok hK0 hD0 (i + 1) (by omega)
    obtain ⟨q1, q2, q3⟩ := hQ.1 i (by omega) (by omega)
    obtain ⟨J1, r1, r2, r3⟩ := sp_171 (W := W) hx q1 (by rw [h5]; exact q2) (h7 i (Int.le_refl _) (by omega))
    have hst : ast s (i + 1) = if (bsT (ast s i).1 (s (392 + (i : Int))) ((ast s i).1 4).toNat).1 = -1 then ast s i else (fStore (ast s i).1 (s (392 + (i : Int))) ((bsT (ast s i).1 (s (392 + (i : Int))) ((ast s i).1 4).toNat).1 / 24) ((bsT (ast s i).1 (s (392 + (i : Int))) ((ast s i).1 4).toNat).1 % 24), (ast s i).2 + 1) := rfl
    have e1 : (ast s (i + 1)).1 = if (bsT (ast s i).1 (s (392 + (i : Int))) ((ast s i).1 4).toNat).1 = -1 then (ast s i).1 else fStore (ast s i).1 (s (392 + (i : Int))) ((bsT (ast s i).1 (s (392 + (i : Int))) ((ast s i).1 4).toNat).1 / 24) ((bsT (ast s i).1 (s (392 + (i : Int))) ((ast s i).1 4).toNat).1 % 24) := by
      rw [hst]; split <;> rfl
    have e2 : (ast s (i + 1)).2 = if (bsT (ast s i).1 (s (392 + (i : Int))) ((ast s i).1 4).toNat).1 = -1 then (ast s i).2 else (ast s i).2 + 1 := by
      rw [hst]; split <;> rfl
    rw [← e1] at r2
    have hfr : ∀ r, (r < 76 ∨ 76 + 27 ≤ r) → J1 r = J0 r := fun r hr => by rw [r3 r hr, hf r hr]
    obtain ⟨J2, s1, s2, s3⟩ := ih (i + 1) (by omega) J1 (CX_nx hx r2 r3 (same_trans (same_symm h1) w1) w2 (by omega)) hfr
    rw [show i + 1 + n = i + (n + 1) by omega] at s1 s2
    refine ⟨J2, fun Q => ?_, s2, s3⟩
    have f11 : jm J 49 11 = jI (s 8) := by
      show jI (J 49 11) = _
      rw [hf 49 (by decide), hS0.2.2.1]
    have fq : J (49 + 17 + 1) i = s (392 + (i : Int)) := by rw [hf _ (by decide)]; exact hS0.2.2.2.2.1 i (by omega) (by omega)
    rw [sg_109_15, f11, if_neg (by rw [jI_le (by omega) (by omega) (by omega) (by omega)]; omega), sp_45 (zStk_r12 zStk_49) (by omega) (by omega) (by decide), fq]
    simp only [zk_l, zk_r, Option.toList_some, Option.toList_none, List.cons_append, List.nil_append, zrokB, zrokB0, zrokB1, zrokJ0, zrokJ1, and_true, true_and, and_self, if_true, if_false, b2_0, b2_1, b2_not, ite_self]
    rw [sg_109_38]
    refine (r1 _).trans ?_
    simp only [zk_l, zk_r, Option.toList_some, Option.toList_none, List.cons_append, List.nil_append, zrokB, zrokB0, zrokB1, zrokJ0, zrokJ1, and_true, true_and, and_self, if_true, if_false, b2_0, b2_1, b2_not, ite_self]
    rw [sg_109_41]
    by_cases c : (bsT (ast s i).1 (s (392 + (i : Int))) ((ast s i).1 4).toNat).1 = -1
    · rw [if_pos c] at e2
      rw [if_pos (by rw [if_pos c]; rfl), sg_109_47, jI_add, ← s1, e2]
      rfl
    · rw [if_neg c] at e2
      rw [if_neg (by rw [if_neg c]; decide), sg_109_47, jI_add, jI_add, ← s1, e2]
      rfl
/-- the reference does -/
theorem as_r (hK0 : okK s) (hD0 : okD D k s) : ∀ (n i : Nat), ((i + n : Nat) : Int) = s 8 → ∀ (J : zJ) (x3 x4 : Value), J 355 = (ast s i).1 → ∃ J' x3' x4', (∀ Q : zO → zI → Prop, wz W 255 20 [.ref 353, .int (jI (ast s i).2), .int (jI (i - (ast s i).2)), x3, x4] [] (jm J) Q = wz W 255 20 [.ref 353, .int (jI (ast s (i + n)).2), .int (jI ((i + n : Nat) - (ast s (i + n)).2)), x3', x4'] [] (jm J') Q) ∧ J' 355 = (ast s (i + n)).1 ∧ ∀ r, r ≠ 355 → r ≠ 358 → J' r = J r := by
  have hQ := hD0.2.2.2.2.2.2.1
  obtain ⟨a1, a2, a3, a4, a5, a6⟩ := hD0.1
  obtain ⟨b1, b2x, b3, b4, b5, b6, b7, b8, b9, b10, b11, b12⟩ := hK0.1
  intro n
  induction n with
  | zero =>
    intro i hi J x3 x4 hj
    exact ⟨J, x3, x4, fun Q => rfl, hj, fun r _ _ => rfl⟩
  | succ n ih =>
    intro i hi J x3 x4 hj
    obtain ⟨h1, h2, h3, h4, h5, h6, h7⟩ := ast_ok hK0 hD0 i (by omega)
    obtain ⟨q1, q2, q3⟩ := hQ.1 i (by omega) (by omega)
    have hK1 := okK_same hK0 h1
    have hp0 := h7 i (Int.le_refl _) (by omega)
    have hpi := h6 i (Int.le_refl _) (by omega)
    have h14 : s 4 = (ast s i).1 4 := h1.2.2.2.1
    obtain ⟨x', hx'⟩ := sp_254 (W := W) (J := J) (k := k + (ast s i).2) (D := D) (p := s (392 + (i : Int))) (by rw [hj]; exact hK1) (by rw [hj]; exact h2) q1 (by rw [hj, h5]; exact q2) (by rw [hj]; exact hp0)
    rw [hj] at hx'
    have hst : ast s (i + 1) = if (bsT (ast s i).1 (s (392 + (i : Int))) ((ast s i).1 4).toNat).1 = -1 then ast s i else (fStore (ast s i).1 (s (392 + (i : Int))) ((bsT (ast s i).1 (s (392 + (i : Int))) ((ast s i).1 4).toNat).1 / 24) ((bsT (ast s i).1 (s (392 + (i : Int))) ((ast s i).1 4).toNat).1 % 24), (ast s i).2 + 1) := rfl
    obtain ⟨u1, u2, u3⟩ := bsT_ok hK1 (s (392 + (i : Int))) ((ast s i).1 4).toNat (by omega)
    have run : ∀ Q : zO → zI → Prop, wz W 255 20 [.ref 353, .int (jI (ast s i).2), .int (jI (i - (ast s i).2)), x3, x4] [] (jm J) Q = wz W 255 47 [.ref 353, .int (jI (ast s i).2), .int (jI (i - (ast s i).2)), .int (jI (s (392 + (i : Int)))), x4] [.int (jI (bsT (ast s i).1 (s (392 + (i : Int))) ((ast s i).1 4).toNat).1)] (jm (jrow J 358 x')) Q := by
      intro Q
      rw [sg_255_20]
      simp (disch := first | assumption | omega) only [hj, h4, hpi, zk_l, zk_r, Option.toList_some, Option.toList_none, List.cons_append, List.nil_append, zrokB, zrokB0, zrokB1, zrokJ0, zrokJ1, and_true, true_and, and_self, if_true, if_false, b2_0, b2_1, b2_not, ite_self, Int.add_zero, jI_nat, jI_add, jI_sub, jI_mul, jI_neg, jI_lt, jI_le, jI_eq, jI_lt0, jI_0lt, jI_le0, jI_0le, jI_eq0, jI_in, jI_dv, i_mod, jI_cl, jm_n, jz_n, i_lit, i_c0, i_c1, Int.toNat_of_nonneg, Int.toNat_natCast, jrow_same, jrow_ne, jrow_jrow, sset_eq, sset_ne]
      rw [if_neg (by omega), hx']
      simp only [zk_l, zk_r, Option.toList_some, Option.toList_none, List.cons_append, List.nil_append, zrokB, zrokB0, zrokB1, zrokJ0, zrokJ1, and_true, true_and, and_self, if_true, if_false, b2_0, b2_1, b2_not, ite_self]
    by_cases c : (bsT (ast s i).1 (s (392 + (i : Int))) ((ast s i).1 4).toNat).1 = -1
    · have e : ast s (i + 1) = ast s i := by rw [hst, if_pos c]
      obtain ⟨J', y3, y4, r1, r2, r3⟩ := ih (i + 1) (by omega) (jrow J 358 x') (.int (jI (s (392 + (i : Int))))) (.int (jI (-1))) (by rw [jrow_ne (by decide), e]; exact hj)
      rw [show i + 1 + n = i + (n + 1) by omega] at r1 r2
      refine ⟨J', y3, y4, fun Q => ?_, r2, fun r h5 h8 => by rw [r3 r h5 h8, jrow_ne h8]⟩
      rw [run, c, sg_255_47, if_pos rfl, sg_255_93, jI_add, ← r1, e, show (i : Int) - (ast s i).2 + 1 = ((i + 1 : Nat) : Int) - (ast s i).2 by omega]
    · have e : ast s (i + 1) = (fStore (ast s i).1 (s (392 + (i : Int))) ((bsT (ast s i).1 (s (392 + (i : Int))) ((ast s i).1 4).toNat).1 / 24) ((bsT (ast s i).1 (s (392 + (i : Int))) ((ast s i).1 4).toNat).1 % 24), (ast s i).2 + 1) := by rw [hst, if_neg c]
      generalize (bsT (ast s i).1 (s (392 + (i : Int))) ((ast s i).1 4).toNat).1 = x at *
      obtain ⟨v1, v2, v3, v4⟩ : 0 ≤ x ∧ x / 24 < (((ast s i).1 4).toNat : Int) ∧ x % 24 < nC (ast s i).1 (x / 24) ∧ saB (ast s i).1 (x / 24) ((ast s i).1 (72 + 7 * s (392 + (i : Int)))) (x % 24) = true := by
        rcases u3 with h | h
        · exact absurd h c
        · exact h
      have e1 : (ast s (i + 1)).1 = fStore (ast s i).1 (s (392 + (i : Int))) (x / 24) (x % 24) := by rw [e]
      have e2 : (ast s (i + 1)).2 = (ast s i).2 + 1 := by rw [e]
      obtain ⟨J', y3, y4, r1, r2, r3⟩ := ih (i + 1) (by omega) (jrow (jrow J 358 x') 355 (fStore (ast s i).1 (s (392 + (i : Int))) (x / 24) (x % 24))) (.int (jI (s (392 + (i : Int))))) (.int (jI x)) (by rw [jrow_same, e1])
      rw [show i + 1 + n = i + (n + 1) by omega] at r1 r2
      refine ⟨J', y3, y4, fun Q => ?_, r2, fun r h5 h8 => by rw [r3 r h5 h8, jrow_ne h5, jrow_ne h8]⟩
      rw [run, sg_255_47, if_neg (by rw [jI_eq (by omega) (by omega) (by omega) (by omega)]; exact c), sp_239o (s := (ast s i).1) (D := D) (k := k + (ast s i).2) (by rw [jrow_ne (by decide)]; exact hj) h2 q1 (by rw [h5]; exact q2) hp0]
      simp only [zk_l, zk_r, Option.toList_some, Option.toList_none, List.cons_append, List.nil_append, zrokB, zrokB0, zrokB1, zrokJ0, zrokJ1, and_true, true_and, and_self, if_true, if_false, b2_0, b2_1, b2_not, ite_self]
      rw [sg_255_66]
      simp (disch := first | assumption | omega) only [Int.add_zero, jI_nat, jI_add, jI_sub, jI_mul, jI_neg, jI_lt, jI_le, jI_eq, jI_lt0, jI_0lt, jI_le0, jI_0le, jI_eq0, jI_in, jI_dv, i_mod]
      rw [sp_241 q1 (by omega) (by omega) (by omega) (by omega) (by omega), jrow_same, jrow_jrow]
      simp only [zk_l, zk_r, Option.toList_some, Option.toList_none, List.cons_append, List.nil_append, zrokB, zrokB0, zrokB1, zrokJ0, zrokJ1, and_true, true_and, and_self, if_true, if_false, b2_0, b2_1, b2_not, ite_self]
      rw [sg_255_81]
      simp (disch := first | assumption | omega) only [Int.add_zero, jI_nat, jI_add, jI_sub, jI_mul, jI_neg, jI_lt, jI_le, jI_eq, jI_lt0, jI_0lt, jI_le0, jI_0le, jI_eq0, jI_in, jI_dv, i_mod]
      rw [sp_240 (by omega) (by omega), jrow_same, jrow_jrow]
      simp only [zk_l, zk_r, Option.toList_some, Option.toList_none, List.cons_append, List.nil_append, zrokB, zrokB0, zrokB1, zrokJ0, zrokJ1, and_true, true_and, and_self, if_true, if_false, b2_0, b2_1, b2_not, ite_self]
      rw [sg_255_90, sg_255_93, jI_add]
      have := r1 Q
      rw [e2] at this
      rw [show ((i + 1 : Nat) : Int) - ((ast s i).2 + 1 : Nat) = i - (ast s i).2 by omega] at this
      rw [← this]
      rfl
theorem op_autoStore (hk : k ≤ 21500) : Op W k [] 109 255 [.ref 0, .float 0, .float 0] [.ref 353, .float 0, .float 0, .float 0, .float 0] := by
  have hk : k ≤ 30000 := by omega
  intro J g t
  obtain ⟨-, t2, t3, -⟩ := id t
  obtain ⟨a1', a2', a3', a4', a5', a6'⟩ := t3.1
  obtain ⟨b1, b2x, b3, b4, b5, b6, b7, b8, b9, b10, b11, b12⟩ := t2.1
  obtain ⟨-, hS, hU, -⟩ := id g
  obtain ⟨d1, d2, d3, hpl, hq, hc, ho⟩ := id hS
  have hcx := GC_cx g t hk
  obtain ⟨pn, hpn⟩ : ∃ pn : Nat, J 355 8 = pn := ⟨(J 355 8).toNat, by omega⟩
  have hx0 : CX (cpyJ J 76 49) 76 (J 355) 365 k := try_cx hcx (J 355) (eqS_refl _) (by decide)
  have hx1 : CX (cpyJ J 76 49) 76 (ast (J 355) 0).1 365 (k + (ast (J 355) 0).2) := by
    show CX (cpyJ J 76 49) 76 (J 355) 365 (k + ((0 : Nat) : Int))
    rw [show k + ((0 : Nat) : Int) = k by omega]
    exact hx0
  obtain ⟨J1, c1, c2, c3⟩ := as_c (W := W) hcx (by omega) pn 0 (by omega) _ hx1 (fun r hr => cpyJ_fr r (by omega))
  rw [Nat.zero_add] at c1 c2
  have hfr : ∀ r, (r < 76 ∨ 103 ≤ r) → J1 r = J r := fun r hr => c3 r (by omega)
  obtain ⟨h1, h2, h3, h4, h5, h6, h7⟩ := ast_ok t2 t3 pn (by omega)
  have hcls : ∀ Q : zO → zI → Prop, wz W 109 0 [.ref 0, .float 0, .float 0] [] (jm J) Q = (if jI (ast (J 355) pn).2 ≤ 0 then wz W 109 61 [.ref 0, .int (jI (ast (J 355) pn).2), .int (jI pn)] [] (jm J1) Q else wz W 170 0 [.ref 0] [] (jm J1) (zk Q (fun v I1 => wz W 109 61 [.ref 0, .int (jI (ast (J 355) pn).2), .int (jI pn)] (v.toList ++ []) I1 Q))) := by
    intro Q
    rw [sg_109_0, sp_62 zStk_76 zStk_49 (by decide)]
    simp only [zk_l, zk_r, Option.toList_some, Option.toList_none, List.cons_append, List.nil_append, zrokB, zrokB0, zrokB1, zrokJ0, zrokJ1, and_true, true_and, and_self, if_true, if_false, b2_0, b2_1, b2_not, ite_self]
    rw [sg_109_11]
    refine (c1 Q).trans ?_
    have f11 : jm J1 49 11 = jI pn := by
      show jI (J1 49 11) = _
      rw [hfr 49 (by decide), d3, hpn]
    rw [sg_109_15, f11, if_pos (Int32.le_refl _)]
  have href : ∀ (J2 : zJ), (∀ r, 348 ≤ r → J2 r = J r) → ∃ J' e x3 x4, (∀ Q : zO → zI → Prop, wz W 255 0 [.ref 353, .float 0, .float 0, .float 0, .float 0] [] (jm J2) Q = (if jI (ast (J 355) pn).2 ≤ 0 then Q (oI (ast (J 355) pn).2) (jm J') else wz W 237 0 [.ref 353, .ref 357, .float 0] [] (jm J') (zk Q (fun v I1 => wz W 255 108 [.ref 353, .int (jI (ast (J 355) pn).2), .int (jI (pn - (ast (J 355) pn).2)), x3, x4] (v.toList ++ []) I1 Q)))) ∧ J' 355 = (ast (J 355) pn).1 ∧ eqS (J 355) e ∧ J' 357 = e ∧ J' 353 = sset (J2 353) 0 0 ∧ ∀ r, r ≠ 353 → r ≠ 355 → r ≠ 357 → r ≠ 358 → J' r = J2 r := by
    intro J2 h348
    have e55 := h348 355 (by decide)
    have e9 : ∀ f, jrow J2 353 f 355 = J 355 := fun f => e355.trans e55
    let e : Int → Int := scpy (J 355) (J2 357) 472
    have he : eqS (J 355) e := eqS_symm (scpy_eqS _ _)
    obtain ⟨J', x3, x4, r1, r2, r3⟩ := as_r (W := W) t2 t3 pn 0 (by omega) (jrow (jrow J2 353 (sset (J2 353) 0 0)) 357 e) (.float 0) (.float 0) (by rw [jrow_ne (by decide)]; exact e9 _)
    rw [Nat.zero_add] at r1 r2
    refine ⟨J', e, x3, x4, fun Q => ?_, r2, he, by rw [r3 357 (by decide) (by decide), jrow_same], by rw [r3 353 (by decide) (by decide), jrow_ne (by decide), jrow_same], fun r h3 h5 h7 h8 => by rw [r3 r h5 h8, jrow_ne h7, jrow_ne h3]⟩
    rw [sg_255_0]
    simp (disch := first | assumption | omega) only [jI_cl, jm_n, jz_n, i_lit, i_c0, i_c1, Int.toNat_of_nonneg, Int.toNat_natCast, jrow_same, jrow_ne, jrow_jrow, sset_eq, sset_ne]
    rw [sp_196 za_355 za_357 (by decide) (by decide) (by decide) (by decide) (by decide), e9, jrow_ne (show 357 ≠ 353 by decide)]
    simp only [zk_l, zk_r, Option.toList_some, Option.toList_none, List.cons_append, List.nil_append, zrokB, zrokB0, zrokB1, zrokJ0, zrokJ1, and_true, true_and, and_self, if_true, if_false, b2_0, b2_1, b2_not, ite_self]
    rw [sg_255_16]
    refine (r1 Q).trans ?_
    rw [sg_255_20]
    simp (disch := first | assumption | omega) only [r2, h4, hpn, zk_l, zk_r, Option.toList_some, Option.toList_none, List.cons_append, List.nil_append, zrokB, zrokB0, zrokB1, zrokJ0, zrokJ1, and_true, true_and, and_self, if_true, if_false, b2_0, b2_1, b2_not, ite_self, Int.add_zero, jI_nat, jI_add, jI_sub, jI_mul, jI_neg, jI_lt, jI_le, jI_eq, jI_lt0, jI_0lt, jI_le0, jI_0le, jI_eq0, jI_in, jI_dv, i_mod, jI_cl, jm_n, jz_n, i_lit, i_c0, i_c1, Int.toNat_of_nonneg, Int.toNat_natCast, jrow_same, jrow_ne, jrow_jrow, sset_eq, sset_ne]
    rw [if_pos (Int.le_refl _)]
    by_cases q : ((ast (J 355) pn).2 : Int) ≤ 0
    · rw [if_pos q, if_pos q, sg_255_108]
    · rw [if_neg q, if_neg q]
  by_cases z : (ast (J 355) pn).2 = 0
  · have hs0 := ast_0 (J 355) pn z
    have h348 : ∀ r, 348 ≤ r → J1 r = J r := fun r hr => hfr r (by omega)
    obtain ⟨J', e, y3, y4, r1, r2, r3, r4, r5, r6⟩ := href J1 h348
    rw [z] at r1 hcls
    rw [hs0] at r2
    have hkp : kp J J' := by
      refine ⟨fun r hr => ?_, by rw [r5, sset_ne (by decide), hfr 353 (by decide)], by rw [r5, sset_ne (by decide), hfr 353 (by decide)], by rw [r5, sset_ne (by decide), hfr 353 (by decide)]⟩
      by_cases c : r = 355
      · rw [c, r2]
      · rw [r6 r (by omega) c (by omega) (by omega), hfr r (by omega)]
    refine opq g t ⟨oI 0, J1, 0, J', fun Q => ?_, fun Q => ?_, hkp, Or.inl ⟨rfl, by rw [r5, sset_eq rfl]⟩⟩
    · rw [hcls, if_pos (by decide), sg_109_61]
      rfl
    · rw [r1, if_pos (by decide)]
      rfl
  · have hm : ¬ (jI (ast (J 355) pn).2 ≤ 0) := by rw [jI_le0 (by omega) (by omega)]; omega
    have hkpc := kp_76 hfr
    obtain ⟨Jk, k1, k2, k3⟩ := keep_ok (W := W) (GC_kp g t2 hkpc) (GT_kp t hkpc (Int.le_refl _))
    have hRSk : RS Jk 76 (ast (J 355) pn).1 := RS_fr c2.2.1 (fun r a b => k2 r (by omega) (by omega))
    have ht4 : (ast (J 355) pn).1 4 ≤ 3 := by rw [← h1.2.2.2.1]; exact b8
    have ht7 : (ast (J 355) pn).1 7 ≤ 10 := by rw [← h1.2.2.2.2.2.1]; exact b12
    have hRS2 : RS (cpyJ Jk 49 76) 49 (ast (J 355) pn).1 := cpyJ_RS hRSk h2.1.2.2.2.1 h2.1.2.2.2.2.2 ht4 ht7
    have h2fr : ∀ r, (r < 49 ∨ 76 ≤ r) → cpyJ Jk 49 76 r = Jk r := fun r hr => cpyJ_fr r (by omega)
    have h348 : ∀ r, 348 ≤ r → cpyJ Jk 49 76 r = J r := fun r hr => by rw [h2fr r (by omega), k2 r (by omega) (by omega), hfr r (by omega)]
    obtain ⟨J', e, y3, y4, r1, r2, r3, r4, r5, r6⟩ := href _ h348
    have e53 := h348 353 (by decide)
    have e59 := h348 359 (by decide)
    have j15 : J' 353 15 = J 353 15 := by rw [r5, sset_ne (by decide), e53]
    obtain ⟨J3, w1, w2, w3, w4⟩ := sp_237 (W := W) (J := J') za_357 (by decide) (by decide) (by rw [j15]; exact t.2.2.2.1.1) (by rw [j15]; exact t.2.2.2.1.2.1)
    rw [r4] at w2
    have hp0 : hpush J J3 (J 355) := hpush_eqS (hpush_cg w2 j15.symm (by rw [r6 359 (by decide) (by decide) (by decide) (by decide), e59]) rfl rfl) r3
    have hall : ∀ r, r ≠ 353 → r ≠ 355 → r ≠ 357 → r ≠ 358 → r ≠ 359 → J3 r = cpyJ Jk 49 76 r := fun r h3 h5 h7 h8 h9 => by
      rw [w4 r h3 h9, r6 r h3 h5 h7 h8]
    have h3i : ∀ i, i ≠ 0 → i ≠ 15 → J3 353 i = J 353 i := fun i i0 i1 => by rw [w3 i i1, r5, sset_ne i0, e53]
    have key := chg_ok2 (J := J) (J1 := Jk) (J2 := cpyJ Jk 49 76) (J3 := J3) (k' := k + 42) (t := (ast (J 355) pn).1) g t (by omega) (fun r a b c => by rw [k2 r a b, hfr r c]) (fun T' hT => k3 T' (by
        rw [hfr 355 (by decide)]
        exact hpush_cg hT (by rw [hfr 353 (by decide)]) (hfr 359 (by decide)) rfl rfl)) (fun r hr => h2fr r (by omega)) hRS2 (fun r hr => hall r (by omega) (by omega) (by omega) (by omega) (by omega)) hp0 (by rw [w4 355 (by decide) (by decide), r2]) (h3i 2 (by decide) (by decide)) (h3i 17 (by decide) (by decide)) (by rw [hall 354 (by decide) (by decide) (by decide) (by decide) (by decide), h348 354 (by decide)]) (by rw [hall 360 (by decide) (by decide) (by decide) (by decide) (by decide), h348 360 (by decide)]) h1 (okD_mono h2 (Int.le_refl _) (by omega))
    refine ⟨oI (ast (J 355) pn).2, cpyJ Jk 49 76, (ast (J 355) pn).2, J3, fun Q => ?_, fun Q => ?_, key.1, key.2, Or.inl ⟨rfl, by rw [w3 0 (by decide), r5, sset_eq rfl]⟩⟩
    · rw [hcls, if_neg hm, sg_170_0, k1]
      simp only [zk_l, zk_r, Option.toList_some, Option.toList_none, List.cons_append, List.nil_append, zrokB, zrokB0, zrokB1, zrokJ0, zrokJ1, and_true, true_and, and_self, if_true, if_false, b2_0, b2_1, b2_not, ite_self]
      rw [sg_170_11, sp_62 zStk_49 zStk_76 (by decide)]
      simp only [zk_l, zk_r, Option.toList_some, Option.toList_none, List.cons_append, List.nil_append, zrokB, zrokB0, zrokB1, zrokJ0, zrokJ1, and_true, true_and, and_self, if_true, if_false, b2_0, b2_1, b2_not, ite_self]
      rw [sg_170_22]
      simp only [zk_l, zk_r, Option.toList_some, Option.toList_none, List.cons_append, List.nil_append, zrokB, zrokB0, zrokB1, zrokJ0, zrokJ1, and_true, true_and, and_self, if_true, if_false, b2_0, b2_1, b2_not, ite_self]
      rw [sg_109_61]
    · rw [r1, if_neg hm]
      refine (w1 _).trans ?_
      simp only [zk_l, zk_r, Option.toList_some, Option.toList_none, List.cons_append, List.nil_append, zrokB, zrokB0, zrokB1, zrokJ0, zrokJ1, and_true, true_and, and_self, if_true, if_false, b2_0, b2_1, b2_not, ite_self]
      rw [sg_255_108]
end
