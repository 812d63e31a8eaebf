/-! ===== errorPosition, load ===== -/
theorem pRn_ok {f : Int → Int} {n : Int} : ∀ (d : Nat) (s : Int → Int) (hl hq e : Int) (r : pSt), okR s hl hq → 0 ≤ e → e ≤ n → pRn f n d s hl hq e = .inr r → okR r.1 r.2.1 r.2.2 := by
  intro d
  induction d with
  | zero => intro s hl hq e r _ _ _ h; cases h
  | succ d ih =>
    intro s hl hq e r hO e0 e1 h
    replace h : (match pSm f n s hl hq e with
      | .inl p => .inl p
      | .inr ((s', hl', hq'), e') => if tqK f n e' = 0 then .inr (s', hl', hq') else if tqG f n e' 59 = true then pRn f n d s' hl' hq' (tqE f n e') else .inl (tqS f n e')) = Sum.inr r := h
    cases hs : pSm f n s hl hq e with
    | inl p => rw [hs] at h; cases h
    | inr v =>
      obtain ⟨⟨s', hl', hq'⟩, e'⟩ := v
      obtain ⟨b1, b3, b4⟩ := pSm_p hO e0 e1 hs
      have hS' := tqS_b (f := f) b3
      have hE' := tqE_b (f := f) b3
      rw [hs] at h
      replace h : (if tqK f n e' = 0 then .inr (s', hl', hq') else if tqG f n e' 59 = true then pRn f n d s' hl' hq' (tqE f n e') else .inl (tqS f n e')) = Sum.inr r := h
      by_cases c : tqK f n e' = 0
      · rw [if_pos c] at h
        cases h
        exact b4
      · rw [if_neg c] at h
        by_cases c2 : tqG f n e' 59 = true
        · rw [if_pos c2] at h
          exact ih s' hl' hq' (tqE f n e') r b4 (by omega) (by omega) h
        · rw [if_neg c2] at h
          cases h
theorem pRn_l {f : Int → Int} {n : Int} : ∀ (d : Nat) (s : Int → Int) (hl hq e p : Int), okR s hl hq → 0 ≤ e → e ≤ n → pRn f n d s hl hq e = .inl p → 0 ≤ p ∧ p ≤ n := by
  intro d
  induction d with
  | zero =>
    intro s hl hq e p _ e0 e1 h
    have hS := tqS_b (f := f) e1
    cases h
    omega
  | succ d ih =>
    intro s hl hq e p hO e0 e1 h
    replace h : (match pSm f n s hl hq e with
      | .inl p => .inl p
      | .inr ((s', hl', hq'), e') => if tqK f n e' = 0 then .inr (s', hl', hq') else if tqG f n e' 59 = true then pRn f n d s' hl' hq' (tqE f n e') else .inl (tqS f n e')) = (Sum.inl p : Int ⊕ pSt) := h
    cases hs : pSm f n s hl hq e with
    | inl q =>
      rw [hs] at h
      cases h
      exact pSm_l hO e0 e1 hs
    | inr v =>
      obtain ⟨⟨s', hl', hq'⟩, e'⟩ := v
      obtain ⟨b1, b3, b4⟩ := pSm_p hO e0 e1 hs
      have hS' := tqS_b (f := f) b3
      have hE' := tqE_b (f := f) b3
      rw [hs] at h
      replace h : (if tqK f n e' = 0 then .inr (s', hl', hq') else if tqG f n e' 59 = true then pRn f n d s' hl' hq' (tqE f n e') else .inl (tqS f n e')) = (Sum.inl p : Int ⊕ pSt) := h
      by_cases c : tqK f n e' = 0
      · rw [if_pos c] at h
        cases h
      · rw [if_neg c] at h
        by_cases c2 : tqG f n e' 59 = true
        · rw [if_pos c2] at h
          exact ih s' hl' hq' (tqE f n e') p b4 (by omega) (by omega) h
        · rw [if_neg c2] at h
          cases h
          omega
/-- a setup that was read, of the class -/
theorem RP_RU {J : zJ} {u : Nat} {s : Int → Int} {hl hq : Int} (h : RP J u s hl hq) (hi : ∀ g : Int, 0 ≤ g → g < 6 → J (u + 13 + g.toNat) 0 = g) : RU J u s := by
  obtain ⟨a1, a2, a3, a4, a5, a6, a7, a8, a9, hg, hc, ho, hp⟩ := h
  refine ⟨a1, a2, a3, a5, a6, a7, hi, hg, fun c a b => ?_, ho⟩
  obtain ⟨y0, y1, y2, y3, y4, y5, y6⟩ := hc c a b
  exact ⟨y0, y1, y2, y4, y5, y6⟩
/-- what is read, without its pallets; with some -/
def t00 (s : Int → Int) : Int → Int := sset (sset s 6 0) 8 0
def tkk (s : Int → Int) : Nat → Int → Int
  | 0 => t00 s
  | k + 1 => fAdd (tkk s k) (s (72 + 7 * (k : Int)))
theorem tkk_ok {s : Int → Int} {hl hq : Int} (hO : okR s hl hq) : ∀ k : Nat, (k : Int) ≤ s 6 → okR (tkk s k) hl hq ∧ tkk s k 6 = k ∧ (∀ j, ¬ (j = 6 ∨ j = 8 ∨ (72 ≤ j ∧ j < 352) ∨ (392 ≤ j ∧ j < 400)) → tkk s k j = s j) ∧ ∀ p, 0 ≤ p → p < (k : Int) → tkk s k (72 + 7 * p) = s (72 + 7 * p) := by
  have hO' := hO
  obtain ⟨⟨hB, hC, hG, hOo⟩, hN, hL, hh⟩ := hO'
  have hB' := hB
  obtain ⟨x1, x2, x3, x4, x5, x6, x7, x8, x9, x10, x11, x12⟩ := hB'
  obtain ⟨l0, l9, l10, l8, l6a, l6b, lp, lx, lc, lo⟩ := hL
  intro k
  induction k with
  | zero =>
    intro _
    have ht : ∀ j, j ≠ 6 → j ≠ 8 → t00 s j = s j := fun j h1 h2 => by
      unfold t00
      rw [sset_ne h2, sset_ne h1]
    have t6 : t00 s 6 = 0 := by
      unfold t00
      rw [sset_ne (by decide), sset_eq rfl]
    have t8 : t00 s 8 = 0 := by
      unfold t00
      rw [sset_eq rfl]
    show okR (t00 s) hl hq ∧ t00 s 6 = 0 ∧ (∀ j, _ → t00 s j = s j) ∧ ∀ p, 0 ≤ p → p < 0 → t00 s (72 + 7 * p) = s (72 + 7 * p)
    generalize t00 s = t at *
    refine ⟨⟨⟨?_, okC_cg hC (ht 4 (by omega) (by omega)) (fun q q0 q1 => ⟨ht _ (by omega) (by omega), ht _ (by omega) (by omega), ht _ (by omega) (by omega), ht _ (by omega) (by omega)⟩), okG_cg hG (ht 5 (by omega) (by omega)) x10 (fun j j0 j1 => ht j (by omega) (by omega)), okO_cg hOo (ht 7 (by omega) (by omega)) (by rw [ht 5 (by omega) (by omega)]; exact Int.le_refl _) x12 (fun j j0 j1 => ht j (by omega) (by omega))⟩, nrS_cg hN (ht 4 (by omega) (by omega)) (ht 5 (by omega) (by omega)) (fun q q0 q1 => ht _ (by omega) (by omega)) (fun g g0 g1 => ht _ (by omega) (by omega)), ⟨by rw [ht 0 (by omega) (by omega)]; exact l0, by rw [ht 9 (by omega) (by omega)]; exact l9, by rw [ht 10 (by omega) (by omega)]; exact l10, by omega, by omega, by omega, fun p p0 p1 => by omega, fun x a b => by rw [ht x (by omega) (by omega)]; exact lx x a b, fun c a b => ?_, fun o a b => by rw [ht _ (by omega) (by omega)]; exact lo o a b⟩, hh⟩, t6, fun j hj => ht j (by omega) (by omega), fun p p0 p1 => by omega⟩
    · unfold okB
      rw [ht 1 (by omega) (by omega), ht 2 (by omega) (by omega), ht 3 (by omega) (by omega), ht 4 (by omega) (by omega), ht 5 (by omega) (by omega), ht 7 (by omega) (by omega)]
      exact hB
    · rw [ht (12 + 8 * c + 3) (by omega) (by omega), ht (12 + 8 * c + 4) (by omega) (by omega), ht (12 + 8 * c + 5) (by omega) (by omega), ht (12 + 8 * c + 6) (by omega) (by omega), ht 4 (by omega) (by omega)]
      exact lc c a b
  | succ k ih =>
    intro hk
    obtain ⟨i1, i2, i3, i4⟩ := ih (by omega)
    obtain ⟨g0, g1, -⟩ := lp (k : Int) (by omega) (by omega)
    have e5 : tkk s k 5 = s 5 := i3 5 (by omega)
    have i5 := okR_Pl i1 (g := s (72 + 7 * (k : Int))) (by omega) g0 (by omega)
    have i8 : tkk s k 8 = k := by rw [i1.2.2.1.2.2.2.1, i2]
    show okR (fAdd (tkk s k) (s (72 + 7 * (k : Int)))) hl hq ∧ fAdd (tkk s k) (s (72 + 7 * (k : Int))) 6 = ((k + 1 : Nat) : Int) ∧ (∀ j, _ → fAdd (tkk s k) (s (72 + 7 * (k : Int))) j = s j) ∧ ∀ p, 0 ≤ p → p < ((k + 1 : Nat) : Int) → fAdd (tkk s k) (s (72 + 7 * (k : Int))) (72 + 7 * p) = s (72 + 7 * p)
    generalize tkk s k = t at *
    have ht : ∀ j, (j < 72 + 7 * t 6 ∨ 72 + 7 * t 6 + 7 ≤ j) ∧ j ≠ 392 + t 8 ∧ j ≠ 8 ∧ j ≠ 6 → fAdd t (s (72 + 7 * (k : Int))) j = t j := by
      intro j hj
      unfold fAdd
      simp (disch := first | assumption | omega) only [sset_ne, zro_ne]
    have t6 : fAdd t (s (72 + 7 * (k : Int))) 6 = t 6 + 1 := by unfold fAdd; simp (disch := first | assumption | omega) only [sset_ne, sset_eq]
    have tp0 : fAdd t (s (72 + 7 * (k : Int))) (72 + 7 * t 6) = s (72 + 7 * (k : Int)) := by unfold fAdd; simp (disch := first | assumption | omega) only [sset_ne, sset_eq]
    refine ⟨i5, by omega, fun j hj => ?_, fun p p0 p1 => ?_⟩
    · rw [ht j (by omega)]
      exact i3 j hj
    · by_cases e : p = k
      · rw [i2] at tp0
        rw [e]
        exact tp0
      · rw [ht _ (by omega)]
        exact i4 p p0 (by omega)
theorem tkk_same {s : Int → Int} {hl hq : Int} (hO : okR s hl hq) {k : Nat} (hk : (k : Int) ≤ s 6) : same s (tkk s k) := by
  obtain ⟨-, -, h, -⟩ := tkk_ok hO k hk
  obtain ⟨x1, x2, x3, x4, x5, x6, x7, x8, x9, x10, x11, x12⟩ := hO.1.1
  exact ⟨(h 1 (by omega)).symm, (h 2 (by omega)).symm, (h 3 (by omega)).symm, (h 4 (by omega)).symm, (h 5 (by omega)).symm, (h 7 (by omega)).symm, fun c a b => ⟨(h _ (by omega)).symm, (h _ (by omega)).symm, (h _ (by omega)).symm, (h _ (by omega)).symm⟩, fun j a b => (h _ (by omega)).symm, fun o a b => ⟨(h _ (by omega)).symm, (h _ (by omega)).symm, (h _ (by omega)).symm⟩⟩
section
variable {W : zW} {J : zJ} {Q : zO → zI → Prop} {k : Int} {s : Int → Int} {hl hq : Int}
/-- begin -/
theorem sp_61 (hR : RP J 5 s hl hq) (hU : RU J 5 s) (hO : okR s hl hq) : ∃ J', (∀ Q : zO → zI → Prop, wz W 61 0 [.ref 49, .float 0] [] (jm J) Q = Q oV (jm J')) ∧ RS J' 49 s ∧ ∀ r, (r < 49 ∨ 76 ≤ r) → J' r = J r := by
  have hO' := hO
  obtain ⟨⟨hB, hC, hG, hOo⟩, hN, hL, hh⟩ := hO'
  obtain ⟨x1, x2, x3, x4, x5, x6, x7, x8, x9, x10, x11, x12⟩ := hB
  obtain ⟨l0, l9, l10, l8, l6a, l6b, lp, lx, lc, lo⟩ := hL
  obtain ⟨a1, a2, a3, a4, a5, a6, a7, a8, a9, hg, hc, ho, hp⟩ := id hR
  have hb : zStk 49 := zStk_49
  let J1 : zJ := jrow (jrow (jrow (jrow J 49 (sset (sset (sset (J 49) 1 0) 2 0) 11 0)) (49 + 21 + 1) (sfil 0 (J (49 + 21 + 1)) (3 : Nat))) (49 + 23 + 1) (sfil 0 (J (49 + 23 + 1)) (3 : Nat))) (49 + 25 + 1) (sfil 0 (J (49 + 25 + 1)) (10 : Nat))
  have jne : ∀ r, r ≠ 49 → r ≠ 49 + 21 + 1 → r ≠ 49 + 23 + 1 → r ≠ 49 + 25 + 1 → J1 r = J r := fun r h1 h2 h3 h4 => by
    show jrow (jrow (jrow (jrow J 49 _) _ _) _ _) _ _ r = _
    rw [jrow_ne h4, jrow_ne h3, jrow_ne h2, jrow_ne h1]
  have j49 : J1 49 = sset (sset (sset (J 49) 1 0) 2 0) 11 0 := by
    show jrow (jrow (jrow (jrow J 49 _) _ _) _ _) _ _ 49 = _
    rw [jrow_ne (by decide), jrow_ne (by decide), jrow_ne (by decide), jrow_same]
  have j71 : J1 (49 + 21 + 1) = sfil 0 (J (49 + 21 + 1)) (3 : Nat) := by
    show jrow (jrow (jrow (jrow J 49 _) _ _) _ _) _ _ (49 + 21 + 1) = _
    rw [jrow_ne (by decide), jrow_ne (by decide), jrow_same]
  have j73 : J1 (49 + 23 + 1) = sfil 0 (J (49 + 23 + 1)) (3 : Nat) := by
    show jrow (jrow (jrow (jrow J 49 _) _ _) _ _) _ _ (49 + 23 + 1) = _
    rw [jrow_ne (by decide), jrow_same]
  have j75 : J1 (49 + 25 + 1) = sfil 0 (J (49 + 25 + 1)) (10 : Nat) := by
    show jrow (jrow (jrow (jrow J 49 _) _ _) _ _) _ _ (49 + 25 + 1) = _
    rw [jrow_same]
  have R1 : ∀ Q : zO → zI → Prop, wz W 61 0 [.ref 49, .float 0] [] (jm J) Q = wz W 61 41 [.ref 49, .int (jI 0)] [] (jm J1) Q := by
    intro Q
    rw [sg_61_0 (hb := hb)]
    simp (disch := first | assumption | omega) only [jm_n, jz_n, i_lit, i_c0, i_c1, jrow_same, jrow_jrow]
    rw [sp_48 (zStk_r14 hb) (by decide)]
    simp (disch := first | assumption | omega) only [zk_l, Option.toList_none, List.nil_append, jrow_ne, jrow_same]
    rw [sg_61_23 (hb := hb), sp_48 (zStk_r15 hb) (by decide)]
    simp (disch := first | assumption | omega) only [zk_l, Option.toList_none, List.nil_append, jrow_ne, jrow_same]
    rw [sg_61_31 (hb := hb), sp_48 (zStk_r16 hb) (by decide)]
    simp (disch := first | assumption | omega) only [zk_l, Option.toList_none, List.nil_append, jrow_ne, jrow_same]
    rw [sg_61_39 (hb := hb)]
  -- the setpoints
  let h : Int → Int → Int := fun c j => if 0 ≤ j ∧ j < c then s (12 + 8 * j + 3) else J (49 + 19 + 1) j
  have key : ∀ Q : zO → zI → Prop, wz W 61 41 [.ref 49, .int (jI ((0 : Nat) : Int))] [] (jm (jrow J1 (49 + 19 + 1) (h ((0 : Nat) : Int)))) Q = wz W 61 41 [.ref 49, .int (jI ((s 4).toNat : Int))] [] (jm (jrow J1 (49 + 19 + 1) (h ((s 4).toNat : Int)))) Q := fun Q => zloop (f := fun c : Nat => wz W 61 41 [.ref 49, .int (jI (c : Int))] [] (jm (jrow J1 (49 + 19 + 1) (h (c : Int)))) Q) (s 4).toNat (fun c hcn => by
    try simp only
    obtain ⟨-, -, -, y3, -⟩ := hc (c : Int) (by omega) (by omega)
    have e3 : jm (jrow J1 (49 + 19 + 1) (h (c : Int))) 5 3 = jI (s 4) := by
      show jI (jrow J1 (49 + 19 + 1) (h (c : Int)) 5 3) = _
      rw [jrow_ne (by decide), jne 5 (by decide) (by decide) (by decide) (by decide), a2]
    rw [sg_61_41 (hb := hb), e3, if_neg (by rw [jI_le (by omega) (by omega) (by omega) (by omega)]; omega), sp_53 zStp_5 (by omega) (by omega)]
    simp only [zk_l, zk_r, Option.toList_some, Option.toList_none, List.cons_append, List.nil_append, zrokB, zrokB0, zrokB1, zrokJ0, zrokJ1, and_true, true_and, and_self, if_true, if_false, b2_0, b2_1, b2_not, ite_self]
    rw [sg_61_65 (hb := hb) (hqt0 := zStk_r13 hb) (hqt2 := zStp_c zStp_5 (by omega))]
    have e4 : jm (jrow J1 (49 + 19 + 1) (h (c : Int))) (5 + 19 + (c : Int).toNat) 3 = jI (s (12 + 8 * (c : Int) + 3)) := by
      show jI (jrow J1 (49 + 19 + 1) (h (c : Int)) (5 + 19 + (c : Int).toNat) 3) = _
      rw [jrow_ne (by omega), jne _ (by omega) (by omega) (by omega) (by omega), y3]
    rw [e4, sp_46 (zStk_r13 hb) (by omega) (by omega) (by decide)]
    simp only [zk_l, zk_r, Option.toList_some, Option.toList_none, List.cons_append, List.nil_append, zrokB, zrokB0, zrokB1, zrokJ0, zrokJ1, and_true, true_and, and_self, if_true, if_false, b2_0, b2_1, b2_not, ite_self]
    rw [sg_61_71 (hb := hb), jI_add, jrow_same, jrow_jrow]
    have e5 : sset (h (c : Int)) (c : Int) (s (12 + 8 * (c : Int) + 3)) = h ((c + 1 : Nat) : Int) := by
      funext j
      show (if j = (c : Int) then s (12 + 8 * (c : Int) + 3) else if 0 ≤ j ∧ j < (c : Int) then s (12 + 8 * j + 3) else J (49 + 19 + 1) j) = (if 0 ≤ j ∧ j < ((c + 1 : Nat) : Int) then s (12 + 8 * j + 3) else J (49 + 19 + 1) j)
      by_cases e : j = c
      · rw [if_pos e, if_pos (by omega), e]
      · rw [if_neg e]
        by_cases e2 : 0 ≤ j ∧ j < (c : Int)
        · rw [if_pos e2, if_pos (by omega)]
        · rw [if_neg e2, if_neg (by omega)]
    rw [e5]
    rfl)
  have h0 : jrow J1 (49 + 19 + 1) (h ((0 : Nat) : Int)) = J1 := by
    have : h ((0 : Nat) : Int) = J1 (49 + 19 + 1) := by
      rw [jne (49 + 19 + 1) (by decide) (by decide) (by decide) (by decide)]
      funext j
      show (if 0 ≤ j ∧ j < ((0 : Nat) : Int) then _ else _) = _
      rw [if_neg (by omega)]
    rw [this, jrow_id]
  let J2 : zJ := jrow J1 (49 + 19 + 1) (h ((s 4).toNat : Int))
  have k2 : ∀ r, r ≠ 49 + 19 + 1 → J2 r = J1 r := fun r hr => jrow_ne hr
  have k69 : J2 (49 + 19 + 1) = h ((s 4).toNat : Int) := jrow_same
  have k5 : ∀ r, (r < 49 ∨ 76 ≤ r) → J2 r = J r := fun r hr => by rw [k2 r (by omega), jne r (by omega) (by omega) (by omega) (by omega)]
  have R2 : ∀ Q : zO → zI → Prop, wz W 61 0 [.ref 49, .float 0] [] (jm J) Q = wz W 61 79 [.ref 49, .int (jI 0)] [] (jm J2) Q := by
    intro Q
    have k1 := key Q
    rw [h0] at k1
    rw [R1]
    refine Eq.trans k1 ?_
    show wz W 61 41 _ _ (jm J2) _ = _
    have e3 : jm J2 5 3 = jI (s 4) := by
      show jI (J2 5 3) = _
      rw [k5 5 (by decide), a2]
    rw [sg_61_41 (hb := hb), e3, if_pos (by rw [jI_le (by omega) (by omega) (by omega) (by omega)]; omega)]
  have hS2 : RS J2 49 (tkk s 0) := by
    have t6 : tkk s 0 6 = 0 := by show t00 s 6 = 0; unfold t00; rw [sset_ne (by decide), sset_eq rfl]
    have t8 : tkk s 0 8 = 0 := by show t00 s 8 = 0; unfold t00; rw [sset_eq rfl]
    have ht : ∀ j, j ≠ 6 → j ≠ 8 → tkk s 0 j = s j := fun j h1 h2 => by show t00 s j = s j; unfold t00; rw [sset_ne h2, sset_ne h1]
    refine ⟨?_, ?_, ?_, fun p p0 p1 => by omega, fun i i0 i1 => by omega, fun c c0 c1 => ?_, fun o o0 o1 => ?_⟩
    · rw [k2 49 (by decide), j49, ht 0 (by decide) (by decide), l0]; rfl
    · rw [k2 49 (by decide), j49, t6]; rfl
    · rw [k2 49 (by decide), j49, t8]; rfl
    · rw [ht 4 (by decide) (by decide)] at c1
      obtain ⟨z4, z5, -⟩ := lc c c0 (by omega)
      rw [k69, k2 _ (by decide), k2 _ (by decide), j71, j73, ht _ (by omega) (by omega), ht _ (by omega) (by omega), ht _ (by omega) (by omega), z4, z5]
      refine ⟨if_pos (by omega), sfil_in c0 (by omega), sfil_in c0 (by omega)⟩
    · rw [ht 7 (by decide) (by decide)] at o1
      rw [k2 _ (by decide), j75, ht _ (by omega) (by omega), lo o o0 (by omega)]
      exact sfil_in o0 (by omega)
  -- the pallets
  have main : ∀ (d i : Nat) (J3 : zJ), (i : Int) + d = s 6 → RS J3 49 (tkk s i) → (∀ r, (r < 49 ∨ 76 ≤ r) → J3 r = J r) → ∃ J', (∀ Q : zO → zI → Prop, wz W 61 79 [.ref 49, .int (jI (i : Int))] [] (jm J3) Q = Q oV (jm J')) ∧ RS J' 49 (tkk s (i + d)) ∧ ∀ r, (r < 49 ∨ 76 ≤ r) → J' r = J r := by
    intro d
    induction d with
    | zero =>
      intro i J3 hi hS3 hf
      refine ⟨J3, fun Q => ?_, hS3, hf⟩
      have e3 : jm J3 5 10 = jI (s 6) := by
        show jI (J3 5 10) = _
        rw [hf 5 (by decide), a4]
      rw [sg_61_79 (hb := hb), e3, if_pos (by rw [jI_le (by omega) (by omega) (by omega) (by omega)]; omega)]
    | succ d ih =>
      intro i J3 hi hS3 hf
      obtain ⟨i1, i2, i3, i4⟩ := tkk_ok hO i (by omega)
      have hsm := tkk_same hO (k := i) (by omega)
      have hU3 : RU J3 5 (tkk s i) := RU_same (RU_fr hU hO.1 (fun r a b => hf r (by omega))) hO.1 hsm
      have hx : CX J3 49 (tkk s i) 365 0 := ⟨hb, hS3, hU3, i1.1, okR_D i1 0 (Int.le_refl 0), by decide, by decide⟩
      have i8 : tkk s i 8 = i := by rw [i1.2.2.1.2.2.2.1, i2]
      obtain ⟨J4, r4, hS4, f4⟩ := sp_63 (W := W) hx (g := s (72 + 7 * (i : Int))) (by omega) (by omega)
      obtain ⟨J', r', hS', f'⟩ := ih (i + 1) J4 (by omega) hS4 (fun r hr => by rw [f4 r (by omega)]; exact hf r hr)
      refine ⟨J', fun Q => ?_, by rw [show i + (d + 1) = i + 1 + d by omega]; exact hS', f'⟩
      have e3 : jm J3 5 10 = jI (s 6) := by
        show jI (J3 5 10) = _
        rw [hf 5 (by decide), a4]
      have e4 : J3 (5 + 11 + 1) (i : Int) = s (72 + 7 * (i : Int)) := by
        rw [hf (5 + 11 + 1) (by decide)]
        exact hp (i : Int) (by omega) (by omega)
      rw [sg_61_79 (hb := hb), e3, if_neg (by rw [jI_le (by omega) (by omega) (by omega) (by omega)]; omega), sp_45 (zStp_r11 zStp_5) (by omega) (by omega) (by decide), e4]
      simp only [zk_l, zk_r, Option.toList_some, Option.toList_none, List.cons_append, List.nil_append, zrokB, zrokB0, zrokB1, zrokJ0, zrokJ1, and_true, true_and, and_self, if_true, if_false, b2_0, b2_1, b2_not, ite_self]
      rw [sg_61_102 (hb := hb), r4]
      simp only [zk_l, zk_r, Option.toList_some, Option.toList_none, List.cons_append, List.nil_append, zrokB, zrokB0, zrokB1, zrokJ0, zrokJ1, and_true, true_and, and_self, if_true, if_false, b2_0, b2_1, b2_not, ite_self]
      rw [sg_61_105 (hb := hb), jI_add]
      exact r' Q
  obtain ⟨J', r', hS', f'⟩ := main (s 6).toNat 0 J2 (by omega) hS2 k5
  refine ⟨J', fun Q => ?_, ?_, f'⟩
  · rw [R2]
    exact r' Q
  · rw [Nat.zero_add] at hS'
    obtain ⟨i1, i2, i3, i4⟩ := tkk_ok hO (s 6).toNat (by omega)
    have i8 := i1.2.2.1.2.2.2.1
    obtain ⟨d1, d2, d3, hpl, hqq, hcc, hoo⟩ := hS'
    have ip := i1.2.2.1.2.2.2.2.2.2.1
    have e6 : tkk s (s 6).toNat 6 = s 6 := by omega
    have e0 : tkk s (s 6).toNat 0 = s 0 := i3 0 (by omega)
    have e4 : tkk s (s 6).toNat 4 = s 4 := i3 4 (by omega)
    have e7 : tkk s (s 6).toNat 7 = s 7 := i3 7 (by omega)
    refine ⟨by rw [← e0]; exact d1, by rw [← e6]; exact d2, by rw [d3]; omega, fun p p0 p1 => ?_, fun i i0 i1' => ?_, fun c c0 c1 => ?_, fun o o0 o1 => ?_⟩
    · have h1 := hpl p p0 (by omega)
      obtain ⟨y1, y2, y3, y4, y5, y6, y7, y8⟩ := lp p p0 p1
      obtain ⟨z1, z2, z3, z4, z5, z6, z7, z8⟩ := ip p p0 (by omega)
      rw [i4 p p0 (by omega), z3, z4, z5, z6, z7] at h1
      rw [y3, y4, y5, y6, y7]
      obtain ⟨w1, w2, w3, w4, w5, w6, w7, w8⟩ := h1
      exact ⟨w1, w2, w3, w4, w5, fun h9 => by omega, w7, w8⟩
    · have h1 := hqq i i0 (by omega)
      have y8 := (lp i i0 (by omega)).2.2.2.2.2.2.2
      have z8 := (ip i i0 (by omega)).2.2.2.2.2.2.2
      rw [h1, z8, y8]
    · have h1 := hcc c c0 (by omega)
      rw [i3 (12 + 8 * c + 3) (by omega), i3 (12 + 8 * c + 4) (by omega), i3 (12 + 8 * c + 5) (by omega)] at h1
      exact h1
    · have h1 := hoo o o0 (by omega)
      rw [i3 (352 + 4 * o + 3) (by omega)] at h1
      exact h1
theorem sp_14 : wz W 14 0 [.ref 130] [] (jm J) Q = Q oV (jm (jrow J 130 (sset (sset (J 130) 1 0) 2 0))) := by
  rw [sg_14_0]
  simp (disch := first | assumption | omega) only [jm_n, jz_n, i_lit, i_c0, i_c1, jrow_same, jrow_jrow]
/-- the two readings of the text -/
theorem two_rd {J : zJ} (g : GC J J) (t : GT k J) : txt (J 2) (J 354) (J 353 2) ∧ J 0 1 = J 353 2 := by
  obtain ⟨⟨g1, g2⟩, -⟩ := g
  obtain ⟨⟨t1, t2, t3⟩, -⟩ := t
  exact ⟨⟨t1, t2, fun i a b => ⟨g2 i a b, t3 i a b⟩⟩, g1⟩
/-- the reference's parse, from the class's memory on -/
theorem ref_rd {J J1 : zJ} (t : GT k J) (e353 : J1 353 = J 353) (e354 : J1 354 = J 354) (e356 : J1 356 = J 356) : ∃ o J2, (∀ Q : zO → zI → Prop, wz W 212 0 [.ref 353] [] (jm (jrow J1 353 (sset (J 353) 0 0))) Q = Q o (jm J2)) ∧ fT (jrow J1 353 (sset (J 353) 0 0)) J2 ∧ rRn J2 o (pRn (J 354) (J 353 2) ((J 353 2).toNat + 1) (s000 (J 356)) 0 0 0) := by
  obtain ⟨⟨t1, t2, t3⟩, -⟩ := t
  have h := sp_212 (W := W) (J := jrow J1 353 (sset (J 353) 0 0)) (f := J 354) (n := J 353 2) t1 t2 (by rw [jrow_ne (by decide), e354]; exact ⟨t1, t2, fun i a b => ⟨rfl, t3 i a b⟩⟩) (by rw [jrow_same, sset_ne (by decide)])
  rw [show (jrow J1 353 (sset (J 353) 0 0)) 356 = J 356 by rw [jrow_ne (by decide)]; exact e356] at h
  exact h
theorem op_errorPosition : Op W k [] 101 213 [.ref 0] [.ref 353] := by
  refine Op.q ?_
  intro J g t
  obtain ⟨htx, h01⟩ := two_rd g t
  have t1 := htx.1
  have t2 := htx.2.1
  obtain ⟨o, J1, r1, f1, c1⟩ := sp_26 (W := W) (u := 27) zStp_27 (Or.inr rfl) t1 t2 htx
  have e353 : J1 353 = J 353 := f1.1 353 (by decide) (by decide)
  obtain ⟨o2, J2, r2, f2, c2⟩ := ref_rd (W := W) (J1 := J1) t e353 (f1.1 354 (by decide) (by decide)) (f1.1 356 (by decide) (by decide))
  have hv : ∃ v : Int, o = oI v ∧ o2 = oI v := by
    cases hr : pRn (J 354) (J 353 2) ((J 353 2).toNat + 1) (s000 (J 356)) 0 0 0 with
    | inl p =>
      rw [hr] at c1 c2
      exact ⟨p, c1, c2.1⟩
    | inr s =>
      rw [hr] at c1 c2
      exact ⟨-1, c1.1, c2.1⟩
  obtain ⟨v, rfl, rfl⟩ := hv
  have q0 : ∀ i, (i < 3 ∨ 13 ≤ i) → J2 353 i = sset (J 353) 0 0 i := fun i hi => by rw [f2.2 i hi, jrow_same]
  refine ⟨oI v, J1, v, J2, fun Q => ?_, fun Q => ?_, ⟨fun r hr => ?_, ?_, ?_, ?_⟩, Or.inl ⟨rfl, ?_⟩⟩
  · rw [sg_101_0]
    simp (disch := first | assumption | omega) only [h01, jm_n, i_lit, i_c1]
    rw [r1]
    simp only [zk_l, zk_r, Option.toList_some, Option.toList_none, List.cons_append, List.nil_append, zrokB, zrokB0, zrokB1, zrokJ0, zrokJ1, and_true, true_and, and_self, if_true, if_false, b2_0, b2_1, b2_not, ite_self]
    rw [sg_101_15]
  · rw [sg_213_0]
    simp (disch := first | assumption | omega) only [jz_n, i_lit, i_c0, e353]
    rw [r2]
    simp only [zk_l, zk_r, Option.toList_some, Option.toList_none, List.cons_append, List.nil_append, zrokB, zrokB0, zrokB1, zrokJ0, zrokJ1, and_true, true_and, and_self, if_true, if_false, b2_0, b2_1, b2_not, ite_self]
    rw [sg_213_9]
  · rw [f2.1 r (by omega) (by omega), jrow_ne (by omega), f1.1 r (by omega) (by omega)]
  · rw [q0 2 (by omega), sset_ne (by decide)]
  · rw [q0 15 (by omega), sset_ne (by decide)]
  · rw [q0 17 (by omega), sset_ne (by decide)]
  · rw [q0 0 (by omega), sset_eq rfl]
theorem op_load (hk0 : 0 ≤ k) : Op W k [1] 102 214 [.ref 0] [.ref 353] := by
  intro J g t
  obtain ⟨htx, h01⟩ := two_rd g t
  have t1 := htx.1
  have t2 := htx.2.1
  obtain ⟨o, J1, r1, f1, c1⟩ := sp_26 (W := W) (u := 27) zStp_27 (Or.inr rfl) t1 t2 htx
  have e353 : J1 353 = J 353 := f1.1 353 (by decide) (by decide)
  have R1 : ∀ (v : Int), o = oI v → -1 ≤ v → v < 2000 → ∀ Q : zO → zI → Prop, wz W 102 0 [.ref 0] [] (jm J) Q = (if v = -1 then wz W 26 0 [.ref 3, .int (jI (J 353 2)), .ref 5, .float 0] [] (jm J1) (zk Q (fun v I1 => wz W 102 44 [.ref 0] (v.toList ++ []) I1 Q)) else Q (oE 1) (jm J1)) := by
    intro v hv v0 v1 Q
    have e01 : jm J1 0 1 = jI (J 353 2) := by
      show jI (J1 0 1) = _
      rw [f1.1 0 (by decide) (by decide), h01]
    rw [sg_102_0]
    simp (disch := first | assumption | omega) only [h01, jm_n, i_lit, i_c1]
    rw [r1, hv]
    simp only [zk_l, zk_r, Option.toList_some, Option.toList_none, List.cons_append, List.nil_append, zrokB, zrokB0, zrokB1, zrokJ0, zrokJ1, and_true, true_and, and_self, if_true, if_false, b2_0, b2_1, b2_not, ite_self]
    rw [sg_102_15, ifE (by omega) (by omega) (by omega) (by omega), e01]
  cases hr : pRn (J 354) (J 353 2) ((J 353 2).toNat + 1) (s000 (J 356)) 0 0 0 with
  | inl p =>
    obtain ⟨o2, J2, r2, f2, c2⟩ := ref_rd (W := W) (J1 := J1) t e353 (f1.1 354 (by decide) (by decide)) (f1.1 356 (by decide) (by decide))
    rw [hr] at c1 c2
    obtain ⟨rfl, p0⟩ := c2
    have c1 : o = oI p := c1
    have pb : p ≤ 900 := by
      exact Int.le_trans (pRn_l _ _ 0 0 0 p (okR_0 _) (Int.le_refl 0) t1 hr).2 t2
    have q0 : ∀ i, (i < 3 ∨ 13 ≤ i) → J2 353 i = sset (J 353) 0 0 i := fun i hi => by rw [f2.2 i hi, jrow_same]
    have kp2 : kp J (jrow J2 353 (sset (J2 353) 0 1)) := by
      refine ⟨fun r hr => ?_, ?_, ?_, ?_⟩
      · rw [jrow_ne (by omega), f2.1 r (by omega) (by omega), jrow_ne (by omega), f1.1 r (by omega) (by omega)]
      · rw [jrow_same, sset_ne (by decide), q0 2 (by omega), sset_ne (by decide)]
      · rw [jrow_same, sset_ne (by decide), q0 15 (by omega), sset_ne (by decide)]
      · rw [jrow_same, sset_ne (by decide), q0 17 (by omega), sset_ne (by decide)]
    refine ⟨oE 1, J1, 0, jrow J2 353 (sset (J2 353) 0 1), fun Q => ?_, fun Q => ?_, GC_kp g t.2.1 kp2, GT_kp t kp2 (by omega), Or.inr ⟨0, 1, rfl, rfl, ?_⟩⟩
    · rw [R1 p c1 (by omega) (by omega), if_neg (by omega)]
    · rw [sg_214_0]
      simp (disch := first | assumption | omega) only [jz_n, i_lit, i_c0, e353]
      rw [r2]
      simp only [zk_l, zk_r, Option.toList_some, Option.toList_none, List.cons_append, List.nil_append, zrokB, zrokB0, zrokB1, zrokJ0, zrokJ1, and_true, true_and, and_self, if_true, if_false, b2_0, b2_1, b2_not, ite_self]
      rw [sg_214_10, if_pos (by rw [jI_0le (by omega) (by omega)]; exact p0), sg_214_18]
      refine Eq.trans (sp_178f (W := W) 1) ?_
      simp only [zk_l, zk_r, Option.toList_some, Option.toList_none, List.cons_append, List.nil_append, zrokB, zrokB0, zrokB1, zrokJ0, zrokJ1, and_true, true_and, and_self, if_true, if_false, b2_0, b2_1, b2_not, ite_self]
      rw [sg_214_22, if_neg (by decide)]
    · rw [jrow_same, sset_eq rfl]
      rfl
  | inr sv =>
    obtain ⟨s, hl, hq⟩ := sv
    have hO : okR s hl hq := pRn_ok _ _ 0 0 0 _ (okR_0 _) (Int.le_refl 0) t1 hr
    rw [hr] at c1
    obtain ⟨ho, -⟩ := c1
    have e2 : J1 2 = J 2 := f1.1 2 (by decide) (by decide)
    obtain ⟨o', J2, r2, f2, c2⟩ := sp_26 (W := W) (J := J1) (u := 5) zStp_5 (Or.inl rfl) t1 t2 (by rw [e2]; exact htx)
    rw [f1.1 356 (by decide) (by decide), hr] at c2
    obtain ⟨ho2, rp2⟩ := c2
    replace rp2 : RP J2 5 s hl hq := rp2
    have hid : ∀ g : Int, 0 ≤ g → g < 6 → J2 (5 + 13 + g.toNat) 0 = g := fun q a b => by
      rw [f2.2 q a b, f1.1 _ (by omega) (by omega)]
      exact g.2.2.1.2.2.2.2.2.2.1 q a b
    have hU2 : RU J2 5 s := RP_RU rp2 hid
    obtain ⟨J3, r3, hS3, f3⟩ := sp_61 (W := W) rp2 hU2 hO
    -- the class's end
    let J4 : zJ := jrow J3 130 (sset (sset (J3 130) 1 0) 2 0)
    let J5 : zJ := jrow J4 0 (sset (sset (J4 0) 9 0) 1 0)
    have n5 : ∀ r, r ≠ 0 → r ≠ 130 → J5 r = J3 r := fun r a b => by
      show jrow J4 0 _ r = _
      rw [jrow_ne a]
      exact jrow_ne b
    have j50 : J5 0 = sset (sset (J4 0) 9 0) 1 0 := jrow_same
    have j5h : J5 130 = sset (sset (J3 130) 1 0) 2 0 := by
      show jrow J4 0 _ 130 = _
      rw [jrow_ne (by decide)]
      exact jrow_same
    have u5 : ∀ r, 76 ≤ r → r ≠ 130 → J5 r = J r := fun r a b => by rw [n5 r (by omega) b, f3 r (by omega), f2.1 r (by omega) (by omega), f1.1 r (by omega) (by omega)]
    have RC : ∀ Q : zO → zI → Prop, wz W 102 0 [.ref 0] [] (jm J) Q = Q (oI (s 6)) (jm J5) := by
      intro Q
      rw [R1 (-1) ho (by decide) (by decide), if_pos rfl, r2, ho2]
      simp only [zk_l, zk_r, Option.toList_some, Option.toList_none, List.cons_append, List.nil_append, zrokB, zrokB0, zrokB1, zrokJ0, zrokJ1, and_true, true_and, and_self, if_true, if_false, b2_0, b2_1, b2_not, ite_self]
      rw [sg_102_44, r3]
      simp only [zk_l, zk_r, Option.toList_some, Option.toList_none, List.cons_append, List.nil_append, zrokB, zrokB0, zrokB1, zrokJ0, zrokJ1, and_true, true_and, and_self, if_true, if_false, b2_0, b2_1, b2_not, ite_self]
      rw [sg_102_52, sp_14]
      simp only [zk_l, zk_r, Option.toList_some, Option.toList_none, List.cons_append, List.nil_append, zrokB, zrokB0, zrokB1, zrokJ0, zrokJ1, and_true, true_and, and_self, if_true, if_false, b2_0, b2_1, b2_not, ite_self]
      rw [sg_102_59]
      have e9 : zset (zset (jm (jrow J3 130 (sset (sset (J3 130) 1 0) 2 0))) 0 9 (jI 0)) 0 1 (jI 0) = jm J5 := by
        simp (disch := first | assumption | omega) only [jz_n, i_lit, i_c1, jrow_same, jrow_jrow]
        rfl
      rw [e9]
      have e10 : jm J5 49 2 = jI (s 6) := by
        show jI (J5 49 2) = _
        rw [n5 49 (by decide) (by decide), hS3.2.1]
      rw [e10]
    have e5353 : J5 353 = J 353 := u5 353 (by decide) (by decide)
    obtain ⟨o6, J6, r6, f6, c6⟩ := ref_rd (W := W) (J1 := J5) t e5353 (u5 354 (by decide) (by decide)) (u5 356 (by decide) (by decide))
    rw [hr] at c6
    obtain ⟨rfl, q356⟩ := c6
    replace q356 : J6 356 = s := q356
    have q0 : ∀ i, (i < 3 ∨ 13 ≤ i) → J6 353 i = sset (J 353) 0 0 i := fun i hi => by rw [f6.2 i hi, jrow_same]
    let J7 : zJ := jrow J6 355 (scpy s (J6 355) 472)
    let J8 : zJ := jrow J7 353 (sset (sset (sset (J7 353) 2 0) 15 0) 17 0)
    have n8 : ∀ r, r ≠ 353 → r ≠ 355 → r ≠ 356 → J8 r = J5 r := fun r a b c => by
      show jrow J7 353 _ r = _
      rw [jrow_ne a]
      show jrow J6 355 _ r = _
      rw [jrow_ne b, f6.1 r a c, jrow_ne a]
    have j8 : J8 355 = scpy s (J6 355) 472 := by
      show jrow J7 353 _ 355 = _
      rw [jrow_ne (by decide)]
      exact jrow_same
    have j83 : ∀ i, J8 353 i = sset (sset (sset (J6 353) 2 0) 15 0) 17 0 i := fun i => by
      show jrow J7 353 (sset (sset (sset (J7 353) 2 0) 15 0) 17 0) 353 i = _
      have : J7 353 = J6 353 := jrow_ne (by decide)
      rw [jrow_same, this]
    have es : eqS s (scpy s (J6 355) 472) := eqS_symm (scpy_eqS s (J6 355))
    have hD : okD 365 (k + 42) s := okR_D hO _ (by omega)
    have hL := hO.2.2.1
    have l6b := hL.2.2.2.2.2.1
    have l86 := hL.2.2.2.1
    refine ⟨oI (s 6), J5, s 6, J8, RC, fun Q => ?_, ⟨⟨?_, fun i a b => ?_⟩, ?_, ?_, ⟨?_, ?_, ?_, fun i a b => ?_⟩, ?_, fun h9 => ?_⟩, ⟨⟨?_, ?_, fun i a b => ?_⟩, ?_, ?_, ⟨?_, ?_, fun i a b => ?_⟩, ?_, fun h9 => ?_⟩, Or.inl ⟨rfl, ?_⟩⟩
    · rw [sg_214_0]
      simp (disch := first | assumption | omega) only [jz_n, i_lit, i_c0, e5353]
      rw [r6]
      simp only [zk_l, zk_r, Option.toList_some, Option.toList_none, List.cons_append, List.nil_append, zrokB, zrokB0, zrokB1, zrokJ0, zrokJ1, and_true, true_and, and_self, if_true, if_false, b2_0, b2_1, b2_not, ite_self]
      rw [sg_214_10, if_neg (by decide), sg_214_18]
      refine Eq.trans (sp_178t (W := W) 1) ?_
      simp only [zk_l, zk_r, Option.toList_some, Option.toList_none, List.cons_append, List.nil_append, zrokB, zrokB0, zrokB1, zrokJ0, zrokJ1, and_true, true_and, and_self, if_true, if_false, b2_0, b2_1, b2_not, ite_self]
      rw [sg_214_22, if_pos (by decide), sp_196 h_356 h_355 (by decide) (by decide) (by decide) (by decide) (by decide), q356]
      simp only [zk_l, zk_r, Option.toList_some, Option.toList_none, List.cons_append, List.nil_append, zrokB, zrokB0, zrokB1, zrokJ0, zrokJ1, and_true, true_and, and_self, if_true, if_false, b2_0, b2_1, b2_not, ite_self]
      rw [sg_214_38]
      show (zvin (jI 6) 472 = true ∧ Q (.inl (some (.int ((zset (zset (zset (jm J7) 353 2 (jI 0)) 353 15 (jI 0)) 353 17 (jI 0)) 355 (jI 6).toNatClampNeg)))) (zset (zset (zset (jm J7) 353 2 (jI 0)) 353 15 (jI 0)) 353 17 (jI 0))) = _
      have e9 : zset (zset (zset (jm J7) 353 2 (jI 0)) 353 15 (jI 0)) 353 17 (jI 0) = jm J8 := by
        simp (disch := first | assumption | omega) only [jz_n, i_lit, jrow_same, jrow_jrow]
        rfl
      have e10 : jm J8 355 (jI 6).toNatClampNeg = jI (s 6) := by
        rw [jm_cl (by decide) (by decide), j8]
        congr 1
      rw [e9, e10, jI_in (by decide) (by decide) (by decide)]
      simp only [true_and]
    · rw [n8 0 (by decide) (by decide) (by decide), j50, j83, sset_eq rfl, sset_ne (by decide), sset_ne (by decide), sset_eq rfl]
    · rw [j83, sset_ne (by decide), sset_ne (by decide), sset_eq rfl] at b
      omega
    · rw [j8]
      exact RS_eqS hO.1 (by omega) (by omega) (RS_fr hS3 (fun r a b => by rw [n8 r (by omega) (by omega) (by omega), n5 r (by omega) (by omega)])) es
    · rw [j8]
      exact RU_same (RU_fr hU2 hO.1 (fun r a b => by rw [n8 r (by omega) (by omega) (by omega), n5 r (by omega) (by omega), f3 r (by omega)])) hO.1 (same_eqS hO.1 es)
    · rw [n8 130 (by decide) (by decide) (by decide), j5h, j83, sset_eq rfl, sset_ne (by decide), sset_eq rfl]
    · rw [n8 130 (by decide) (by decide) (by decide), j5h, sset_ne (by decide), sset_eq rfl]
      decide
    · rw [n8 130 (by decide) (by decide) (by decide), j5h, sset_ne (by decide), sset_eq rfl]
      decide
    · rw [j83, sset_ne (by decide), sset_eq rfl] at b
      omega
    · rw [n8 0 (by decide) (by decide) (by decide), j50, j83, sset_ne (by decide), sset_eq rfl, sset_eq rfl]
    · rw [j83, sset_eq rfl] at h9
      omega
    · rw [j83, sset_ne (by decide), sset_ne (by decide), sset_eq rfl]
      decide
    · rw [j83, sset_ne (by decide), sset_ne (by decide), sset_eq rfl]
      decide
    · rw [j83, sset_ne (by decide), sset_ne (by decide), sset_eq rfl] at b
      omega
    · rw [j8]
      exact okK_same hO.1 (same_eqS hO.1 es)
    · rw [j8]
      exact okD_eqS hO.1 hD es
    · rw [j83, sset_ne (by decide), sset_eq rfl]
      decide
    · rw [j83, sset_ne (by decide), sset_eq rfl]
      decide
    · rw [j83, sset_ne (by decide), sset_eq rfl] at b
      omega
    · rw [j83, sset_eq rfl]
      exact Or.inl rfl
    · rw [j83, sset_eq rfl] at h9
      omega
    · rw [j83, sset_ne (by decide), sset_ne (by decide), sset_ne (by decide), q0 0 (by omega), sset_eq rfl]
end
