/-! ===== states that are the same on their 472 places ===== -/
def eqS (f g : Int → Int) : Prop := ∀ i, 0 ≤ i → i < 472 → f i = g i
theorem eqS_refl (f : Int → Int) : eqS f f := fun _ _ _ => rfl
theorem eqS_symm {f g : Int → Int} (h : eqS f g) : eqS g f := fun i a b => (h i a b).symm
theorem eqS_trans {f g h : Int → Int} (a : eqS f g) (b : eqS g h) : eqS f h := fun i x y => (a i x y).trans (b i x y)
theorem scpy_eqS (f g : Int → Int) : eqS (scpy f g 472) f := fun i a b => scpy_in a b
theorem same_eqS {f g : Int → Int} (hK : okK f) (e : eqS f g) : same f g := by
  obtain ⟨b1, b2, b3, b4, b5, b6, b7, b8, b9, b10, b11, b12⟩ := hK.1
  exact ⟨e 1 (by omega) (by omega), e 2 (by omega) (by omega), e 3 (by omega) (by omega), e 4 (by omega) (by omega), e 5 (by omega) (by omega), e 7 (by omega) (by omega), fun c a b => ⟨e _ (by omega) (by omega), e _ (by omega) (by omega), e _ (by omega) (by omega), e _ (by omega) (by omega)⟩, fun j a b => e _ (by omega) (by omega), fun o a b => ⟨e _ (by omega) (by omega), e _ (by omega) (by omega), e _ (by omega) (by omega)⟩⟩
theorem okD_eqS {f g : Int → Int} {D k : Int} (hK : okK f) (h : okD D k f) (e : eqS f g) : okD D k g := by
  obtain ⟨b1, b2, b3, b4, b5, b6, b7, b8, b9, b10, b11, b12⟩ := hK.1
  obtain ⟨⟨a1, a2, a3, a4, a5, a6⟩, hT, hV, hP, hW, hL, hQ, hN⟩ := h
  have e0 := e 0 (by omega) (by omega)
  have e4 := e 4 (by omega) (by omega)
  have e5 := e 5 (by omega) (by omega)
  have e6 := e 6 (by omega) (by omega)
  have e7 := e 7 (by omega) (by omega)
  have e8 := e 8 (by omega) (by omega)
  have ee : ∀ i, 0 ≤ i ∧ i < 472 → g i = f i := fun i hi => (e i hi.1 hi.2).symm
  refine ⟨⟨by omega, by omega, by omega, by omega, by omega, by omega⟩, fun c c0 c1 => ?_, fun o o0 o1 => ?_, fun p p0 p1 => ?_, fun p p0 p1 => ?_, fun x x0 x1 => ?_, ?_, ?_⟩
  · rw [ee _ (by omega), ee _ (by omega), ee _ (by omega)]
    exact hT c c0 (by omega)
  · rw [ee _ (by omega)]
    exact hV o o0 (by omega)
  · rw [ee 0 (by omega), ee 5 (by omega), ee (72 + 7 * p) (by omega), ee (72 + 7 * p + 1) (by omega), ee (72 + 7 * p + 2) (by omega), ee (72 + 7 * p + 4) (by omega), ee (72 + 7 * p + 5) (by omega), ee (72 + 7 * p + 6) (by omega)]
    exact hP p p0 (by omega)
  · rw [ee 4 (by omega), ee (72 + 7 * p + 2) (by omega), ee (72 + 7 * p + 3) (by omega)]
    obtain ⟨h1, h2⟩ := hW p p0 (by omega)
    refine ⟨fun h9 => ?_, h2⟩
    obtain ⟨x1, x2, x3, x4⟩ := h1 h9
    rw [ee (12 + 8 * (f (72 + 7 * p + 3) / 24) + 1) (by omega), ee (12 + 8 * (f (72 + 7 * p + 3) / 24) + 2) (by omega), ee (400 + f (72 + 7 * p + 3)) (by omega)]
    exact ⟨x1, x2, x3, x4⟩
  · rw [ee 6 (by omega), ee (400 + x) (by omega)]
    rcases hL x x0 x1 with h | ⟨h1, h2, h3⟩
    · exact Or.inl h
    · exact Or.inr ⟨h1, h2, by rw [ee _ (by omega)]; exact h3⟩
  · obtain ⟨q1, q2, q3⟩ := hQ
    refine ⟨fun i i0 i1 => ?_, fun i j i0 ij j1 => ?_, fun q q0 q1' hq => ?_⟩
    · obtain ⟨f1, f2, f3⟩ := q1 i i0 (by omega)
      rw [ee 6 (by omega), ee (392 + i) (by omega), ee (72 + 7 * f (392 + i) + 2) (by omega)]
      exact ⟨f1, f2, f3⟩
    · rw [ee (392 + i) (by omega), ee (392 + j) (by omega)]
      exact q2 i j i0 ij (by omega)
    · rw [ee _ (by omega)] at hq
      obtain ⟨i, i0, i1, hi⟩ := q3 q q0 (by omega) hq
      exact ⟨i, i0, by omega, by rw [ee (392 + i) (by omega)]; exact hi⟩
  · unfold okN at hN ⊢
    rw [ee 9 (by omega), ee 10 (by omega), ee 6 (by omega), cntS_cg (s := f) (t := g) (st := 2) _ (fun q q0 q1 => by rw [ee _ (by omega)]), cntS_cg (s := f) (t := g) (st := 3) _ (fun q q0 q1 => by rw [ee _ (by omega)])]
    exact hN
theorem RS_eqS {J : zJ} {b : Nat} {f g : Int → Int} (hK : okK f) (h6 : f 6 ≤ 40) (h8 : f 8 ≤ 8) (h : RS J b f) (e : eqS f g) : RS J b g := by
  obtain ⟨b1, b2, b3, b4, b5, b6, b7, b8, b9, b10, b11, b12⟩ := hK.1
  have e4 := e 4 (by omega) (by omega)
  have e6 := e 6 (by omega) (by omega)
  have e7 := e 7 (by omega) (by omega)
  have e8 := e 8 (by omega) (by omega)
  have ee : ∀ i, 0 ≤ i ∧ i < 472 → g i = f i := fun i hi => (e i hi.1 hi.2).symm
  obtain ⟨d1, d2, d3, hpl, hq, hc, ho⟩ := h
  refine ⟨by rw [ee 0 (by omega)]; exact d1, by rw [ee 6 (by omega)]; exact d2, by rw [ee 8 (by omega)]; exact d3, fun p p0 p1 => ?_, fun i i0 i1 => ?_, fun c c0 c1 => ?_, fun o o0 o1 => ?_⟩
  · rw [ee (72 + 7 * p) (by omega), ee (72 + 7 * p + 1) (by omega), ee (72 + 7 * p + 2) (by omega), ee (72 + 7 * p + 3) (by omega), ee (72 + 7 * p + 4) (by omega), ee (72 + 7 * p + 5) (by omega), ee (72 + 7 * p + 6) (by omega)]
    exact hpl p p0 (by omega)
  · rw [ee _ (by omega)]
    exact hq i i0 (by omega)
  · rw [ee (12 + 8 * c + 3) (by omega), ee (12 + 8 * c + 4) (by omega), ee (12 + 8 * c + 5) (by omega)]
    exact hc c c0 (by omega)
  · rw [ee _ (by omega)]
    exact ho o o0 (by omega)
/-! ===== the history ===== -/
def hs (T : zJ) (e : Int) : Int → Int := fun i => T 359 (472 * e + i)
/-- the class's kept stock number e, the first being f -/
def hb (f e : Int) : Nat := 132 + 27 * ((f + e) % 8).toNat
theorem hb_stk (f e : Int) : zStk (hb f e) := zStk_h (by omega)
/-- the class's cells against the reference's, of the memory T -/
def GC (J T : zJ) : Prop :=
  (J 0 1 = T 353 2 ∧ ∀ i, 0 ≤ i → i < T 353 2 → J 2 i = T 354 i) ∧
  RS J 49 (T 355) ∧ RU J 5 (T 355) ∧
  (J 130 2 = T 353 15 ∧ 0 ≤ J 130 1 ∧ J 130 1 < 8 ∧ ∀ e, 0 ≤ e → e < T 353 15 → RS J (hb (J 130 1) e) (hs T e)) ∧
  (J 0 9 = T 353 17 ∧ (T 353 17 = 1 → RS J 103 (T 360)))
/-- what the reference's memory keeps to -/
def GT (k : Int) (T : zJ) : Prop :=
  (0 ≤ T 353 2 ∧ T 353 2 ≤ 900 ∧ ∀ i, 0 ≤ i → i < T 353 2 → 1 ≤ T 354 i ∧ T 354 i ≤ 255) ∧
  okK (T 355) ∧ okD 365 k (T 355) ∧
  (0 ≤ T 353 15 ∧ T 353 15 ≤ 8 ∧ ∀ e, 0 ≤ e → e < T 353 15 → same (T 355) (hs T e) ∧ okD 365 k (hs T e)) ∧
  ((T 353 17 = 0 ∨ T 353 17 = 1) ∧ (T 353 17 = 1 → same (T 355) (T 360) ∧ okD 365 k (T 360)))
/-- s is pushed onto the history -/
def hpush (T T' : zJ) (s : Int → Int) : Prop :=
  (T 353 15 = 8 → T' 353 15 = 8 ∧ (∀ e, 0 ≤ e → e < 7 → eqS (hs T (e + 1)) (hs T' e)) ∧ eqS s (hs T' 7)) ∧
  (T 353 15 ≠ 8 → T' 353 15 = T 353 15 + 1 ∧ (∀ e, 0 ≤ e → e < T 353 15 → eqS (hs T e) (hs T' e)) ∧ eqS s (hs T' (T 353 15)))
section
variable {W : zW} {J : zJ} {Q : zO → zI → Prop}
theorem hsh (f e : Nat → Int) : True := trivial
/-- record -/
theorem sp_237 {r : Nat} (hr : zArr r 472) (hr9 : r ≠ 359) (hr3 : r ≠ 353) (h0 : 0 ≤ J 353 15) (h8 : J 353 15 ≤ 8) : ∃ J', (∀ Q : zO → zI → Prop, wz W 237 0 [.ref 353, .ref r, .float 0] [] (jm J) Q = Q oV (jm J')) ∧ hpush J J' (J r) ∧ (∀ i, i ≠ 15 → J' 353 i = J 353 i) ∧ ∀ q, q ≠ 353 → q ≠ 359 → J' q = J q := by
  -- the copying, from n entries on
  have hcp : ∀ (n : Nat) (J1 : zJ), n < 8 → J1 353 15 = n → ∀ (Q : zO → zI → Prop) (v : Value), wz W 237 52 [.ref 353, .ref r, v] [] (jm J1) Q = Q oV (jm (jrow (jrow J1 359 (fun j => if 472 * (n : Int) ≤ j ∧ j < 472 * (n : Int) + 472 then J1 r (j - 472 * n) else J1 359 j)) 353 (sset (J1 353) 15 ((n : Int) + 1)))) := by
    intro n J1 hn h15 Q v
    rw [sg_237_52 (hp1 := hr)]
    have key := zloop (f := fun k => wz W 237 54 [.ref 353, .ref r, .int (jI k)] [] (jm (jrow J1 359 (fun j => if 472 * (n : Int) ≤ j ∧ j < 472 * (n : Int) + k then J1 r (j - 472 * n) else J1 359 j))) Q) 472 (fun k hk => by
      try simp only
      rw [sg_237_54 (hp1 := hr)]
      simp (disch := first | assumption | omega) only [h15, zk_l, zk_r, Option.toList_some, Option.toList_none, List.cons_append, List.nil_append, zrokB, zrokB0, zrokB1, zrokJ0, zrokJ1, and_true, true_and, and_self, if_true, if_false, b2_0, b2_1, b2_not, ite_self, Int.add_zero, jI_nat, jI_add, jI_sub, jI_mul, jI_neg, jI_lt, jI_le, jI_eq, jI_lt0, jI_0lt, jI_le0, jI_0le, jI_eq0, jI_in, jI_dv, i_mod, jI_cl, jm_n, jz_n, i_lit, i_c0, i_c1, Int.toNat_of_nonneg, Int.toNat_natCast, jrow_same, jrow_ne, jrow_jrow, sset_eq, sset_ne]
      rw [if_neg (by omega)]
      have e : sset (fun j => if 472 * (n : Int) ≤ j ∧ j < 472 * (n : Int) + k then J1 r (j - 472 * n) else J1 359 j) (472 * (n : Int) + k) (J1 r k) = (fun j => if 472 * (n : Int) ≤ j ∧ j < 472 * (n : Int) + ((k + 1 : Nat) : Int) then J1 r (j - 472 * n) else J1 359 j) := by
        funext j
        unfold sset
        by_cases h : j = 472 * (n : Int) + k
        · rw [if_pos h, if_pos (by omega), h, show 472 * (n : Int) + (k : Int) - 472 * n = k by omega]
        · rw [if_neg h]
          show (if 472 * (n : Int) ≤ j ∧ j < 472 * (n : Int) + k then J1 r (j - 472 * n) else J1 359 j) = _
          by_cases h2 : 472 * (n : Int) ≤ j ∧ j < 472 * (n : Int) + k
          · rw [if_pos h2, if_pos (by omega)]
          · rw [if_neg h2, if_neg (by omega)]
      rw [e]
      rfl)
    have z0 : jrow J1 359 (fun j => if 472 * (n : Int) ≤ j ∧ j < 472 * (n : Int) + ((0 : Nat) : Int) then J1 r (j - 472 * n) else J1 359 j) = J1 := by
      have : (fun j => if 472 * (n : Int) ≤ j ∧ j < 472 * (n : Int) + ((0 : Nat) : Int) then J1 r (j - 472 * n) else J1 359 j) = J1 359 := by
        funext j
        rw [if_neg (by omega)]
      rw [this, jrow_id]
    rw [z0] at key
    refine Eq.trans key ?_
    rw [sg_237_54 (hp1 := hr)]
    simp (disch := first | assumption | omega) only [h15, zk_l, zk_r, Option.toList_some, Option.toList_none, List.cons_append, List.nil_append, zrokB, zrokB0, zrokB1, zrokJ0, zrokJ1, and_true, true_and, and_self, if_true, if_false, b2_0, b2_1, b2_not, ite_self, Int.add_zero, jI_nat, jI_add, jI_sub, jI_mul, jI_neg, jI_lt, jI_le, jI_eq, jI_lt0, jI_0lt, jI_le0, jI_0le, jI_eq0, jI_in, jI_dv, i_mod, jI_cl, jm_n, jz_n, i_lit, i_c0, i_c1, Int.toNat_of_nonneg, Int.toNat_natCast, jrow_same, jrow_ne, jrow_jrow, sset_eq, sset_ne]
    rw [if_pos (by omega)]
  by_cases h9 : J 353 15 = 8
  · -- the shifting
    let sh : Int → Int → Int := fun k j => if 0 ≤ j ∧ j < k - 472 then J 359 (j + 472) else J 359 j
    have key : ∀ Q : zO → zI → Prop, wz W 237 13 [.ref 353, .ref r, .int (jI (472 + (0 : Nat)))] [] (jm (jrow J 359 (sh (472 + (0 : Nat))))) Q = wz W 237 13 [.ref 353, .ref r, .int (jI (472 + (3304 : Nat)))] [] (jm (jrow J 359 (sh (472 + (3304 : Nat))))) Q := fun Q => zloop (f := fun k => wz W 237 13 [.ref 353, .ref r, .int (jI (472 + (k : Nat)))] [] (jm (jrow J 359 (sh (472 + (k : Nat))))) Q) 3304 (fun k hk => by
      try simp only
      have e2 : sh (472 + (k : Nat)) (472 + (k : Int)) = J 359 (472 + (k : Int)) := by
        show (if 0 ≤ 472 + (k : Int) ∧ 472 + (k : Int) < 472 + (k : Int) - 472 then _ else _) = _
        rw [if_neg (by omega)]
      rw [sg_237_13 (hp1 := hr)]
      simp (disch := first | assumption | omega) only [e2, zk_l, zk_r, Option.toList_some, Option.toList_none, List.cons_append, List.nil_append, zrokB, zrokB0, zrokB1, zrokJ0, zrokJ1, and_true, true_and, and_self, if_true, if_false, b2_0, b2_1, b2_not, ite_self, Int.add_zero, jI_nat, jI_add, jI_sub, jI_mul, jI_neg, jI_lt, jI_le, jI_eq, jI_lt0, jI_0lt, jI_le0, jI_0le, jI_eq0, jI_in, jI_dv, i_mod, jI_cl, jm_n, jz_n, i_lit, i_c0, i_c1, Int.toNat_of_nonneg, Int.toNat_natCast, jrow_same, jrow_ne, jrow_jrow, sset_eq, sset_ne]
      rw [if_neg (by omega)]
      have e : sset (sh (472 + (k : Int))) (472 + (k : Int) - 472) (J 359 (472 + (k : Int))) = sh (472 + ((k + 1 : Nat) : Int)) := by
        funext j
        show (if j = 472 + (k : Int) - 472 then _ else if 0 ≤ j ∧ j < 472 + (k : Int) - 472 then _ else _) = (if 0 ≤ j ∧ j < 472 + ((k + 1 : Nat) : Int) - 472 then _ else _)
        by_cases h : j = 472 + (k : Int) - 472
        · rw [if_pos h, if_pos (by omega), show j + 472 = 472 + (k : Int) by omega]
        · rw [if_neg h]
          by_cases h2 : 0 ≤ j ∧ j < 472 + (k : Int) - 472
          · rw [if_pos h2, if_pos (by omega)]
          · rw [if_neg h2, if_neg (by omega)]
      rw [e, show 472 + (k : Int) + 1 = 472 + ((k + 1 : Nat) : Int) by omega])
    have z0 : jrow J 359 (sh (472 + ((0 : Nat) : Int))) = J := by
      have : sh (472 + ((0 : Nat) : Int)) = J 359 := by
        funext j
        show (if 0 ≤ j ∧ j < 472 + ((0 : Nat) : Int) - 472 then _ else _) = _
        rw [if_neg (by omega)]
      rw [this, jrow_id]
    rw [z0] at key
    refine ⟨jrow (jrow (jrow (jrow J 359 (sh 3776)) 353 (sset (J 353) 15 7)) 359 (fun j => if 472 * ((7 : Nat) : Int) ≤ j ∧ j < 472 * ((7 : Nat) : Int) + 472 then J r (j - 472 * ((7 : Nat) : Int)) else sh 3776 j)) 353 (sset (sset (J 353) 15 7) 15 (((7 : Nat) : Int) + 1)), fun Q => ?_, ⟨fun _ => ⟨?_, fun e e0 e1 => ?_, ?_⟩, fun h => absurd h9 h⟩, fun i hi => ?_, fun q h3 h59 => ?_⟩
    · rw [sg_237_0 (hp1 := hr)]
      simp (disch := first | assumption | omega) only [h9, Int.add_zero, jI_nat, jI_add, jI_sub, jI_mul, jI_neg, jI_lt, jI_le, jI_eq, jI_lt0, jI_0lt, jI_le0, jI_0le, jI_eq0, jI_in, jI_dv, i_mod, jI_cl, jm_n, jz_n, i_lit, i_c0, i_c1, Int.toNat_of_nonneg, Int.toNat_natCast, jrow_same, jrow_ne, jrow_jrow, sset_eq, sset_ne, if_true]
      refine (key Q).trans ?_
      rw [sg_237_13 (hp1 := hr)]
      simp (disch := first | assumption | omega) only [h9, zk_l, zk_r, Option.toList_some, Option.toList_none, List.cons_append, List.nil_append, zrokB, zrokB0, zrokB1, zrokJ0, zrokJ1, and_true, true_and, and_self, if_true, if_false, b2_0, b2_1, b2_not, ite_self, Int.add_zero, jI_nat, jI_add, jI_sub, jI_mul, jI_neg, jI_lt, jI_le, jI_eq, jI_lt0, jI_0lt, jI_le0, jI_0le, jI_eq0, jI_in, jI_dv, i_mod, jI_cl, jm_n, jz_n, i_lit, i_c0, i_c1, Int.toNat_of_nonneg, Int.toNat_natCast, jrow_same, jrow_ne, jrow_jrow, sset_eq, sset_ne]
      rw [if_pos (by omega), hcp 7 _ (by omega) (by simp (disch := first | assumption | omega) only [jrow_same, sset_eq]; rfl)]
      simp (disch := first | assumption | omega) only [jrow_same, jrow_ne]
      rfl
    · simp (disch := first | assumption | omega) only [jrow_same, sset_eq]
      rfl
    · intro i i0 i1
      unfold hs
      simp (disch := first | assumption | omega) only [jrow_same, jrow_ne]
      rw [if_neg (by omega)]
      show _ = (if 0 ≤ 472 * e + i ∧ 472 * e + i < 3776 - 472 then _ else _)
      rw [if_pos (by omega), show 472 * (e + 1) + i = 472 * e + i + 472 by omega]
    · intro i i0 i1
      unfold hs
      simp (disch := first | assumption | omega) only [jrow_same, jrow_ne]
      rw [if_pos (by omega), show 472 * 7 + i - 472 * ((7 : Nat) : Int) = i by omega]
    · simp (disch := first | assumption | omega) only [jrow_same, sset_ne]
    · simp (disch := first | assumption | omega) only [jrow_ne]
  · have hn : ((J 353 15).toNat : Int) = J 353 15 := Int.toNat_of_nonneg h0
    refine ⟨jrow (jrow J 359 (fun j => if 472 * ((J 353 15).toNat : Int) ≤ j ∧ j < 472 * ((J 353 15).toNat : Int) + 472 then J r (j - 472 * ((J 353 15).toNat : Int)) else J 359 j)) 353 (sset (J 353) 15 (((J 353 15).toNat : Int) + 1)), fun Q => ?_, ⟨fun h => absurd h h9, fun _ => ⟨?_, fun e e0 e1 => ?_, ?_⟩⟩, fun i hi => ?_, fun q h3 h59 => ?_⟩
    · rw [sg_237_0 (hp1 := hr)]
      simp (disch := first | assumption | omega) only [Int.add_zero, jI_nat, jI_add, jI_sub, jI_mul, jI_neg, jI_lt, jI_le, jI_eq, jI_lt0, jI_0lt, jI_le0, jI_0le, jI_eq0, jI_in, jI_dv, i_mod, jI_cl, jm_n, jz_n, i_lit, i_c0, i_c1, Int.toNat_of_nonneg, Int.toNat_natCast, jrow_same, jrow_ne, jrow_jrow, sset_eq, sset_ne]
      rw [if_neg h9, hcp (J 353 15).toNat J (by omega) hn.symm]
      simp (disch := first | assumption | omega) only [Int.toNat_of_nonneg]
    · simp (disch := first | assumption | omega) only [jrow_same, sset_eq]
      rw [hn]
    · intro i i0 i1
      unfold hs
      simp (disch := first | assumption | omega) only [jrow_same, jrow_ne]
      rw [if_neg (by omega)]
    · intro i i0 i1
      unfold hs
      simp (disch := first | assumption | omega) only [jrow_same, jrow_ne]
      rw [if_pos (by omega), show 472 * J 353 15 + i - 472 * ((J 353 15).toNat : Int) = i by omega]
    · simp (disch := first | assumption | omega) only [jrow_same, sset_ne]
    · simp (disch := first | assumption | omega) only [jrow_ne]
/-- keep -/
theorem sp_15 {q : Nat} (hq : zStk q) (hqd : q ≤ 103) (h1 : 0 ≤ J 130 1) (h2 : J 130 1 < 8) (h3 : 0 ≤ J 130 2) (h4 : J 130 2 ≤ 8) :
    wz W 15 0 [.ref 130, .ref q, .float 0] [] (jm J) Q = Q oV (jm (jrow (cpyJ (jrow J 130 (if J 130 2 = 8 then sset (sset (J 130) 1 ((J 130 1 + 1) % 8)) 2 7 else J 130)) (if J 130 2 = 8 then hb ((J 130 1 + 1) % 8) 7 else hb (J 130 1) (J 130 2)) q) 130 (sset (if J 130 2 = 8 then sset (sset (J 130) 1 ((J 130 1 + 1) % 8)) 2 7 else J 130) 2 ((if J 130 2 = 8 then 7 else J 130 2) + 1)))) := by
  have hfin : ∀ (J1 : zJ) (f n : Int), J1 130 1 = f → J1 130 2 = n → 0 ≤ f → f < 8 → 0 ≤ n → n < 8 → wz W 15 32 [.ref 130, .ref q, .float 0] [] (jm J1) Q = Q oV (jm (jrow (cpyJ J1 (hb f n) q) 130 (sset (J1 130) 2 (n + 1)))) := by
    intro J1 f n e1 e2 f0 f1 n0 n1
    have hst : zStk (hb f n) := hb_stk f n
    rw [sg_15_32 (hp1 := hq)]
    simp (disch := first | assumption | omega) only [e2, jI_cl, jm_n, jz_n, i_lit, i_c0, i_c1, Int.toNat_of_nonneg, Int.toNat_natCast, jrow_same, jrow_ne, jrow_jrow, sset_eq, sset_ne]
    rw [sp_17 (by omega) (by omega), e1]
    simp only [zk_l, zk_r, Option.toList_some, Option.toList_none, List.cons_append, List.nil_append, zrokB, zrokB0, zrokB1, zrokJ0, zrokJ1, and_true, true_and, and_self, if_true, if_false, b2_0, b2_1, b2_not, ite_self]
    have eh : 132 + 27 * ((f + n) % 8).toNat = hb f n := rfl
    have hlo : 132 ≤ hb f n := by unfold hb; omega
    rw [eh, sg_15_40 (hp1 := hq) (hqt0 := hst), sp_62 hst hq (by omega)]
    simp only [zk_l, zk_r, Option.toList_some, Option.toList_none, List.cons_append, List.nil_append, zrokB, zrokB0, zrokB1, zrokJ0, zrokJ1, and_true, true_and, and_self, if_true, if_false, b2_0, b2_1, b2_not, ite_self]
    rw [sg_15_50 (hp1 := hq) (hqx2 := hst)]
    have e3 : cpyJ J1 (hb f n) q 130 = J1 130 := cpyJ_fr 130 (Or.inl (by omega))
    simp (disch := first | assumption | omega) only [e3, e2, Int.add_zero, jI_nat, jI_add, jI_sub, jI_mul, jI_neg, jI_lt, jI_le, jI_eq, jI_lt0, jI_0lt, jI_le0, jI_0le, jI_eq0, jI_in, jI_dv, i_mod, jI_cl, jm_n, jz_n, i_lit, i_c0, i_c1, Int.toNat_of_nonneg, Int.toNat_natCast, jrow_same, jrow_ne, jrow_jrow, sset_eq, sset_ne]
    rw [sg_15_60 (hp1 := hq) (hqx2 := hst)]
  rw [sg_15_0 (hp1 := hq)]
  by_cases h : J 130 2 = 8
  · have e9 : jI (J 130 1) + jI 1 - (jI (J 130 1) + jI 1) / jI 8 * jI 8 = jI ((J 130 1 + 1) % 8) := by
      simp (disch := first | assumption | omega) only [Int.add_zero, jI_nat, jI_add, jI_sub, jI_mul, jI_neg, jI_lt, jI_le, jI_eq, jI_lt0, jI_0lt, jI_le0, jI_0le, jI_eq0, jI_in, jI_dv, i_mod]
    simp (disch := first | assumption | omega) only [h, e9, Int.add_zero, jI_nat, jI_add, jI_sub, jI_mul, jI_neg, jI_lt, jI_le, jI_eq, jI_lt0, jI_0lt, jI_le0, jI_0le, jI_eq0, jI_in, jI_dv, i_mod, jI_cl, jm_n, jz_n, i_lit, i_c0, i_c1, Int.toNat_of_nonneg, Int.toNat_natCast, jrow_same, jrow_ne, jrow_jrow, sset_eq, sset_ne, if_true]
    rw [hfin _ ((J 130 1 + 1) % 8) 7 (by simp (disch := first | assumption | omega) only [jrow_same, sset_ne, sset_eq]) (by simp (disch := first | assumption | omega) only [jrow_same, sset_eq]; rfl) (by omega) (by omega) (by omega) (by omega), jrow_same]
    rfl
  · simp (disch := first | assumption | omega) only [Int.add_zero, jI_nat, jI_add, jI_sub, jI_mul, jI_neg, jI_lt, jI_le, jI_eq, jI_lt0, jI_0lt, jI_le0, jI_0le, jI_eq0, jI_in, jI_dv, i_mod, jI_cl, jm_n, jz_n, i_lit, i_c0, i_c1, Int.toNat_of_nonneg, Int.toNat_natCast, jrow_same, jrow_ne, jrow_jrow, sset_eq, sset_ne]
    rw [if_neg h, if_neg h, if_neg h, if_neg h, hfin J _ _ rfl rfl h1 h2 h3 (by omega), jrow_id]
end
