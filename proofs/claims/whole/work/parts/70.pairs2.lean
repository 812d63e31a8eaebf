/-! ===== mostPairs ===== -/
section
variable {W : zW} {J : zJ} {Q : zO → zI → Prop}
variable {A' B' : Int → Bool} {bad : Bool} {w n : Nat}
/-- a row's pattern, with all above it -/
theorem pr_abv {b p r : Nat} (h1 : 1 ≤ w) (h4 : w ≤ 4) (hb : b % w = 0) (hbn : b + w ≤ 24) (hp : p < 81) (hrw : rwO (fun i => A' i) (fun i => B' i) bad w b p) {T : Int → Int} (hJ : J 361 = T) (hT : sdN (pX (fun i => A' i) (fun i => B' i) bad w b) 25 T) (x1 x2 x3 : Int32) : ∀ m : Nat, m ≤ 81 → ∀ N : Int → Int, sdN (pX (fun i => A' i) (fun i => B' i) bad w (b + w)) 25 N → ∃ N', (∀ Q : zO → zI → Prop, wz W 312 198 [.ref 353, .int x1, .int x2, .int x3, .int (mk n A'), .int (mk n B'), .int (b2 bad), .int (jI w), .int (jI r), .int (jI p), .int (b2 true), .int (jI (81 - m : Nat))] [] (jm (jrow J 362 N)) Q = wz W 312 242 [.ref 353, .int x1, .int x2, .int x3, .int (mk n A'), .int (mk n B'), .int (b2 bad), .int (jI w), .int (jI r), .int (jI p), .int (b2 true), .int (jI 81)] [] (jm (jrow J 362 N')) Q) ∧ (∀ i, N i ≤ N' i) ∧ sdN (pX (fun i => A' i) (fun i => B' i) bad w (b + w)) 25 N' ∧ ∀ q, 81 - m ≤ q → q < 81 → bsO bad p q → ∀ k : Nat, k + hmy p 1 < 25 → T (25 * q + k : Nat) ≠ -1 → T (25 * q + k : Nat) + hmy p 2 ≤ N' (25 * p + (k + hmy p 1) : Nat) := by
  intro m
  induction m with
  | zero =>
    intro _ N hN
    refine ⟨N, fun Q => ?_, fun i => Int.le_refl _, hN, fun q h1 h2 => by omega⟩
    rw [sg_312_198, if_neg (by decide), if_pos (by decide)]
    rfl
  | succ m ih =>
    intro hm N hN
    have ih := ih (by omega)
    have hl : 81 - m = 81 - (m + 1) + 1 := by omega
    have hq : 81 - (m + 1) < 81 := by omega
    rw [hl] at ih
    generalize 81 - (m + 1) = q at *
    have run : ∀ Q : zO → zI → Prop, wz W 312 198 [.ref 353, .int x1, .int x2, .int x3, .int (mk n A'), .int (mk n B'), .int (b2 bad), .int (jI w), .int (jI r), .int (jI p), .int (b2 true), .int (jI q)] [] (jm (jrow J 362 N)) Q = wz W 312 219 [.ref 353, .int x1, .int x2, .int x3, .int (mk n A'), .int (mk n B'), .int (b2 bad), .int (jI w), .int (jI r), .int (jI p), .int (b2 true), .int (jI q)] [.int (b2 (bsB bad p q 4))] (jm (jrow J 362 N)) Q := by
      intro Q
      rw [sg_312_198, if_neg (by decide), if_neg (by rw [jI_le (by omega) (by omega) (by omega) (by omega)]; omega), sp_310 hp hq]
      simp only [zk_l, zk_r, Option.toList_some, Option.toList_none, List.cons_append, List.nil_append, zrokB, zrokB0, zrokB1, zrokJ0, zrokJ1, and_true, true_and, and_self, if_true, if_false, b2_0, b2_1, b2_not, ite_self]
    cases hbs : bsB bad p q 4 with
    | false =>
      obtain ⟨N', r', l, s, c⟩ := ih N hN
      refine ⟨N', fun Q => ?_, l, s, fun q' q0 q1 hb9 => ?_⟩
      · rw [run, hbs, sg_312_219, if_pos (by decide), sg_312_236, jI_add]
        exact r' Q
      · by_cases e : q' = q
        · rw [e] at hb9
          have := bsB_iff.mpr hb9
          rw [hbs] at this
          cases this
        · exact c q' (by omega) q1 hb9
    | true =>
      obtain ⟨N1, r1, l1, s1, c1⟩ := sp_311 (W := W) h1 h4 hb hbn hp hq hrw (bsB_iff.mp hbs) hJ hT hN (jI w) (jI r) (b2 bad)
      obtain ⟨N', r', l, s, c⟩ := ih N1 s1
      refine ⟨N', fun Q => ?_, fun i => Int.le_trans (l1 i) (l i), s, fun q' q0 q1 hb9 k hk hne => ?_⟩
      · rw [run, hbs, sg_312_219, if_neg (by decide)]
        refine (r1 _).trans ?_
        simp only [zk_l, zk_r, Option.toList_some, Option.toList_none, List.cons_append, List.nil_append, zrokB, zrokB0, zrokB1, zrokJ0, zrokJ1, and_true, true_and, and_self, if_true, if_false, b2_0, b2_1, b2_not, ite_self]
        rw [sg_312_236, jI_add]
        exact r' Q
      · by_cases e : q' = q
        · rw [e] at hne ⊢
          exact Int.le_trans (c1 k hk hne) (l _)
        · exact c q' (by omega) q1 hb9 k hk hne
/-- all patterns of a row -/
theorem pr_pat {r : Nat} (h1 : 1 ≤ w) (h4 : w ≤ 4) (hn : n ≤ 24) (hrn : w * r + w ≤ n) (hr6 : r ≤ 6) {T : Int → Int} (hJ : J 361 = T) (hT : sdN (pX (fun i => A' i) (fun i => B' i) bad w (w * r)) 25 T) (x1 x2 x3 : Int32) : ∀ m : Nat, m ≤ 81 → ∀ (N : Int → Int) (x10 x11 : Value), sdN (pX (fun i => A' i) (fun i => B' i) bad w (w * r + w)) 25 N → ∃ N' y10 y11, (∀ Q : zO → zI → Prop, wz W 312 170 [.ref 353, .int x1, .int x2, .int x3, .int (mk n A'), .int (mk n B'), .int (b2 bad), .int (jI w), .int (jI r), .int (jI (81 - m : Nat)), x10, x11] [] (jm (jrow J 362 N)) Q = wz W 312 251 [.ref 353, .int x1, .int x2, .int x3, .int (mk n A'), .int (mk n B'), .int (b2 bad), .int (jI w), .int (jI r), .int (jI 0), y10, y11] [] (jm (jrow J 362 N')) Q) ∧ (∀ i, N i ≤ N' i) ∧ sdN (pX (fun i => A' i) (fun i => B' i) bad w (w * r + w)) 25 N' ∧ ∀ p, 81 - m ≤ p → p < 81 → rwO (fun i => A' i) (fun i => B' i) bad w (w * r) p → ∀ q, q < 81 → bsO bad p q → ∀ k : Nat, k + hmy p 1 < 25 → T (25 * q + k : Nat) ≠ -1 → T (25 * q + k : Nat) + hmy p 2 ≤ N' (25 * p + (k + hmy p 1) : Nat) := by
  intro m
  induction m with
  | zero =>
    intro _ N x10 x11 hN
    refine ⟨N, x10, x11, fun Q => ?_, fun i => Int.le_refl _, hN, fun p h1 h2 => by omega⟩
    rw [sg_312_170, if_pos (by decide)]
  | succ m ih =>
    intro hm N x10 x11 hN
    have ih := ih (by omega)
    have hl : 81 - m = 81 - (m + 1) + 1 := by omega
    have hp : 81 - (m + 1) < 81 := by omega
    rw [hl] at ih
    generalize 81 - (m + 1) = p at *
    have run : ∀ Q : zO → zI → Prop, wz W 312 170 [.ref 353, .int x1, .int x2, .int x3, .int (mk n A'), .int (mk n B'), .int (b2 bad), .int (jI w), .int (jI r), .int (jI p), x10, x11] [] (jm (jrow J 362 N)) Q = wz W 312 198 [.ref 353, .int x1, .int x2, .int x3, .int (mk n A'), .int (mk n B'), .int (b2 bad), .int (jI w), .int (jI r), .int (jI p), .int (b2 (rwB (fun i => A' i) (fun i => B' i) bad w (w * r) p 4)), .int (jI 0)] [] (jm (jrow J 362 N)) Q := by
      intro Q
      rw [sg_312_170, if_neg (by rw [jI_le (by omega) (by omega) (by omega) (by omega)]; omega), sp_309 hp h1 h4 hn hrn hr6]
      simp only [zk_l, zk_r, Option.toList_some, Option.toList_none, List.cons_append, List.nil_append, zrokB, zrokB0, zrokB1, zrokJ0, zrokJ1, and_true, true_and, and_self, if_true, if_false, b2_0, b2_1, b2_not, ite_self]
      rw [sg_312_193]
    cases hrw : rwB (fun i => A' i) (fun i => B' i) bad w (w * r) p 4 with
    | false =>
      obtain ⟨N', y10, y11, r', l, s, c⟩ := ih N (.int (b2 false)) (.int (jI 0)) hN
      refine ⟨N', y10, y11, fun Q => ?_, l, s, fun p' p0 p1 hr9 => ?_⟩
      · rw [run, hrw, sg_312_198, if_pos (by decide), sg_312_242, jI_add]
        exact r' Q
      · by_cases e : p' = p
        · rw [e] at hr9
          have := (rwB_iff hp).mpr hr9
          rw [hrw] at this
          cases this
        · exact c p' (by omega) p1 hr9
    | true =>
      obtain ⟨N1, r1, l1, s1, c1⟩ := pr_abv (W := W) (n := n) (r := r) h1 h4 (Nat.mul_mod_right w r) (by omega) hp ((rwB_iff hp).mp hrw) hJ hT x1 x2 x3 81 (Nat.le_refl _) N hN
      obtain ⟨N', y10, y11, r', l, s, c⟩ := ih N1 (.int (b2 true)) (.int (jI 81)) s1
      refine ⟨N', y10, y11, fun Q => ?_, fun i => Int.le_trans (l1 i) (l i), s, fun p' p0 p1 hr9 q hq hb9 k hk hne => ?_⟩
      · rw [run, hrw]
        refine (r1 Q).trans ?_
        rw [sg_312_242, jI_add]
        exact r' Q
      · by_cases e : p' = p
        · rw [e] at hb9 hk ⊢
          exact Int.le_trans (c1 q (by omega) hq hb9 k hk hne) (l _)
        · exact c p' (by omega) p1 hr9 q hq hb9 k hk hne
/-- a row -/
theorem pr_row {r : Nat} (h1 : 1 ≤ w) (h4 : w ≤ 4) (hn : n ≤ 24) (hrn : w * r + w ≤ n) (hr6 : r ≤ 6) (hT : rep (pX (fun i => A' i) (fun i => B' i) bad w (w * r)) 25 (J 361)) (x1 x2 x3 : Int32) (x9 x10 x11 : Value) : ∃ (J' : zJ) (y9 y10 y11 : Value), (∀ Q : zO → zI → Prop, wz W 312 145 [.ref 353, .int x1, .int x2, .int x3, .int (mk n A'), .int (mk n B'), .int (b2 bad), .int (jI w), .int (jI r), .int (jI 0), x10, x11] [] (jm J) Q = wz W 312 131 [.ref 353, .int x1, .int x2, .int x3, .int (mk n A'), .int (mk n B'), .int (b2 bad), .int (jI w), .int (jI (r + 1 : Nat)), y9, y10, y11] [] (jm J') Q) ∧ rep (pX (fun i => A' i) (fun i => B' i) bad w (w * (r + 1))) 25 (J' 361) ∧ ∀ z, z ≠ 361 → z ≠ 362 → J' z = J z := by
  -- emptied
  have k1 := fun Q => zloop (f := fun i => wz W 312 145 [.ref 353, .int x1, .int x2, .int x3, .int (mk n A'), .int (mk n B'), .int (b2 bad), .int (jI w), .int (jI r), .int (jI i), x10, x11] [] (jm (jrow J 362 (sfil (-1) (J 362) i))) Q) 2025 (fun i hi => by
    try simp only
    rw [sg_312_145, if_neg (by rw [jI_le (by omega) (by omega) (by omega) (by omega)]; omega)]
    simp (disch := first | assumption | omega) only [zk_l, zk_r, Option.toList_some, Option.toList_none, List.cons_append, List.nil_append, zrokB, zrokB0, zrokB1, zrokJ0, zrokJ1, and_true, true_and, and_self, if_true, if_false, b2_0, b2_1, b2_not, ite_self, Int.add_zero, jI_nat, jI_add, jI_sub, jI_mul, jI_neg, jI_lt, jI_le, jI_eq, jI_lt0, jI_0lt, jI_le0, jI_0le, jI_eq0, jI_in, jI_dv, i_mod, jI_cl, jm_n, jz_n, i_lit, i_c0, i_c1, Int.toNat_of_nonneg, Int.toNat_natCast, jrow_same, jrow_ne, jrow_jrow, sset_eq, sset_ne]
    rw [sfil_s]
    rfl)
  have hz : ∀ Q, wz W 312 145 [.ref 353, .int x1, .int x2, .int x3, .int (mk n A'), .int (mk n B'), .int (b2 bad), .int (jI w), .int (jI r), .int (jI 0), x10, x11] [] (jm J) Q = wz W 312 170 [.ref 353, .int x1, .int x2, .int x3, .int (mk n A'), .int (mk n B'), .int (b2 bad), .int (jI w), .int (jI r), .int (jI 0), x10, x11] [] (jm (jrow J 362 (sfil (-1) (J 362) 2025))) Q := by
    intro Q
    have h := k1 Q
    rw [show sfil (-1) (J 362) ((0 : Nat) : Int) = J 362 from sfil_0, jrow_id] at h
    refine Eq.trans h ?_
    rw [sg_312_145, if_pos (by decide)]
    rfl
  have hsd : sdN (pX (fun i => A' i) (fun i => B' i) bad w (w * r + w)) 25 (sfil (-1) (J 362) 2025) := by
    intro p m hp hm
    rw [sfil_in (by omega) (by omega)]
    exact ⟨by decide, fun h => absurd rfl h⟩
  obtain ⟨N', y10, y11, r', l, s, c⟩ := pr_pat (W := W) (J := J) h1 h4 hn hrn hr6 rfl hT.1 x1 x2 x3 81 (Nat.le_refl _) _ x10 x11 hsd
  have hrep : rep (pX (fun i => A' i) (fun i => B' i) bad w (w * r + w)) 25 N' := by
    refine ⟨s, fun p' m' s' hp' hm' hX => ?_⟩
    obtain ⟨p, m, s0, x, y, z, e1, e2⟩ := pX_row h1 h4 (Nat.mul_mod_right w r) hX
    have hp := pX_lt x
    have hle := hT.2 p m s0 hp (by omega) x
    have := c p' (by omega) hp' y p hp z m (by omega) (by omega)
    rw [e1, e2]
    omega
  -- copied
  let J2 : zJ := jrow J 362 N'
  have e61 : J2 361 = J 361 := jrow_ne (by decide)
  have e62 : J2 362 = N' := jrow_same
  have k2 := fun Q => zloop (f := fun i => wz W 312 251 [.ref 353, .int x1, .int x2, .int x3, .int (mk n A'), .int (mk n B'), .int (b2 bad), .int (jI w), .int (jI r), .int (jI i), y10, y11] [] (jm (jrow J2 361 (scpy N' (J 361) i))) Q) 2025 (fun i hi => by
    try simp only
    rw [sg_312_251, if_neg (by rw [jI_le (by omega) (by omega) (by omega) (by omega)]; omega)]
    simp (disch := first | assumption | omega) only [e62, zk_l, zk_r, Option.toList_some, Option.toList_none, List.cons_append, List.nil_append, zrokB, zrokB0, zrokB1, zrokJ0, zrokJ1, and_true, true_and, and_self, if_true, if_false, b2_0, b2_1, b2_not, ite_self, Int.add_zero, jI_nat, jI_add, jI_sub, jI_mul, jI_neg, jI_lt, jI_le, jI_eq, jI_lt0, jI_0lt, jI_le0, jI_0le, jI_eq0, jI_in, jI_dv, i_mod, jI_cl, jm_n, jz_n, i_lit, i_c0, i_c1, Int.toNat_of_nonneg, Int.toNat_natCast, jrow_same, jrow_ne, jrow_jrow, sset_eq, sset_ne]
    have e1 : sset (scpy N' (J 361) i) i (N' i) = scpy N' (J 361) (i + 1 : Nat) := by
      funext j
      unfold sset scpy
      by_cases c : j = i
      · rw [if_pos c, if_pos (by omega), c]
      · rw [if_neg c]
        by_cases c2 : 0 ≤ j ∧ j < i
        · rw [if_pos c2, if_pos (by omega)]
        · rw [if_neg c2, if_neg (by omega)]
    rw [e1]
    rfl)
  refine ⟨jrow J2 361 (scpy N' (J 361) 2025), .int (jI 2025), y10, y11, fun Q => ?_, ?_, fun z z1 z2 => ?_⟩
  · rw [hz]
    refine (r' Q).trans ?_
    have h := k2 Q
    have e0 : scpy N' (J 361) ((0 : Nat) : Int) = J 361 := by
      funext j
      exact if_neg (by omega)
    rw [e0, ← e61, jrow_id, e61] at h
    refine Eq.trans h ?_
    rw [sg_312_251, if_pos (by decide), jI_add]
    rfl
  · rw [jrow_same, Nat.mul_succ]
    exact rep_cg hrep (fun i i0 i1 => scpy_in i0 (by omega)) (Or.inr rfl)
  · rw [jrow_ne z1]
    exact jrow_ne z2
/-- the best -/
theorem pr_best (hb : ∀ p m : Nat, p < 81 → m < 25 → -1 ≤ J 361 (25 * p + m : Nat) ∧ J 361 (25 * p + m : Nat) ≤ 100) (x1 x2 x3 : Int32) (x10 x11 : Value) : ∃ M : Nat, (∀ Q : zO → zI → Prop, wz W 312 291 [.ref 353, .int x1, .int x2, .int x3, .int (mk n A'), .int (mk n B'), .int (b2 bad), .int (jI w), .int (jI 0), .int (jI 0), x10, x11] [] (jm J) Q = Q (oI M) (jm J)) ∧ bal 25 (J 361) M := by
  have key : ∀ m : Nat, m ≤ 2025 → ∀ M : Nat, M ≤ 100 → ∃ M' : Nat, (∀ Q : zO → zI → Prop, wz W 312 291 [.ref 353, .int x1, .int x2, .int x3, .int (mk n A'), .int (mk n B'), .int (b2 bad), .int (jI w), .int (jI M), .int (jI (2025 - m : Nat)), x10, x11] [] (jm J) Q = Q (oI M') (jm J)) ∧ M ≤ M' ∧ M' ≤ 100 ∧ (M' = M ∨ ∃ i : Nat, i < 2025 ∧ (M' : Int) = min ((i % 25 : Nat) : Int) (J 361 i)) ∧ ∀ i : Nat, 2025 - m ≤ i → i < 2025 → min ((i % 25 : Nat) : Int) (J 361 i) ≤ M' := by
    intro m
    induction m with
    | zero =>
      intro _ M hM
      refine ⟨M, fun Q => ?_, Nat.le_refl _, hM, Or.inl rfl, fun i h1 h2 => by omega⟩
      rw [sg_312_291, if_pos (by decide)]
    | succ m ih =>
      intro hm M hM
      have hl : 2025 - m = 2025 - (m + 1) + 1 := by omega
      have hlt : 2025 - (m + 1) < 2025 := by omega
      rw [hl] at ih
      generalize 2025 - (m + 1) = i at *
      have hi := hb (i / 25) (i % 25) (by omega) (by omega)
      rw [show 25 * (i / 25) + i % 25 = i by omega] at hi
      obtain ⟨M1, hM1⟩ : ∃ M1 : Nat, (M1 : Int) = max (M : Int) (min ((i % 25 : Nat) : Int) (J 361 i)) := ⟨(max (M : Int) (min ((i % 25 : Nat) : Int) (J 361 i))).toNat, by omega⟩
      obtain ⟨M', r, l1, l2, l3, l4⟩ := ih (by omega) M1 (by omega)
      refine ⟨M', fun Q => ?_, by omega, l2, ?_, fun i' i0 i1 => ?_⟩
      · rw [sg_312_291, if_neg (by rw [jI_le (by omega) (by omega) (by omega) (by omega)]; omega)]
        simp (disch := first | assumption | omega) only [zk_l, zk_r, Option.toList_some, Option.toList_none, List.cons_append, List.nil_append, zrokB, zrokB0, zrokB1, zrokJ0, zrokJ1, and_true, true_and, and_self, if_true, if_false, b2_0, b2_1, b2_not, ite_self, Int.add_zero, jI_nat, jI_add, jI_sub, jI_mul, jI_neg, jI_lt, jI_le, jI_eq, jI_lt0, jI_0lt, jI_le0, jI_0le, jI_eq0, jI_in, jI_dv, i_mod, jI_cl, jm_n, jz_n, i_lit, i_c0, i_c1, Int.toNat_of_nonneg, Int.toNat_natCast, jrow_same, jrow_ne, jrow_jrow, sset_eq, sset_ne]
        rw [show (i : Int) % 25 = (i % 25 : Nat) by omega, jmin_j (by omega) (by omega) (by omega) (by omega), jmax_j (by omega) (by omega) (by omega) (by omega), ← hM1]
        exact r Q
      · rcases l3 with h | h
        · by_cases c : M1 = M
          · exact Or.inl (by omega)
          · exact Or.inr ⟨i, hlt, by omega⟩
        · exact Or.inr h
      · by_cases c : i' = i
        · clear l3 l4
          rw [c]
          omega
        · exact l4 i' (by omega) i1
  obtain ⟨M, r, l1, l2, l3, l4⟩ := key 2025 (Nat.le_refl _) 0 (by decide)
  refine ⟨M, r, ?_, fun p m hp hm => ?_⟩
  · rcases l3 with h | ⟨i, i1, e⟩
    · exact Or.inl h
    · refine Or.inr ⟨i / 25, i % 25, by omega, by omega, ?_⟩
      rw [show 25 * (i / 25) + i % 25 = i by omega]
      exact e
  · have := l4 (25 * p + m) (by omega) (by omega)
    rw [show (25 * p + m) % 25 = m by omega] at this
    exact this
end
section
variable {W : zW} {k : Int}
theorem op_mostPairs (hk : k ≤ 30000) {a b c : Int} (a1 : -2147483648 ≤ a) (a2 : a < 2147483648) (x1 : -2147483648 ≤ b) (x2 : b < 2147483648) (y1 : -2147483648 ≤ c) (y2 : c < 2147483648) : Op W k [0, 1] 150 312 [.ref 0, .int (jI a), .int (jI b), .int (jI c), .float 0, .float 0] [.ref 353, .int (jI a), .int (jI b), .int (jI c), .float 0, .float 0, .float 0, .float 0, .float 0, .float 0, .float 0, .float 0] := by
  refine Op.q (fun J g t => ?_)
  obtain ⟨-, t2, t3, -⟩ := id t
  obtain ⟨a1', a2', a3', a4', a5', a6'⟩ := t3.1
  obtain ⟨b1, b2x, b3, b4, b5, b6, b7, b8, b9, b10, b11, b12⟩ := t2.1
  obtain ⟨-, hS, hU, -⟩ := id g
  obtain ⟨d1, d2, d3, hpl, hq, hc, ho⟩ := id hS
  have hcx := GC_cx g t hk
  have hu3 := hU.2.1
  have hu0 := hU.1
  have hbad : ∀ Q : zO → zI → Prop, wz W 312 34 [.ref 353, .int (jI a), .int (jI b), .int (jI c), .float 0, .float 0, .float 0, .float 0, .float 0, .float 0, .float 0, .float 0] [.ref 353] (jm (jrow J 353 (sset (J 353) 0 0))) Q = Q (oI 0) (jm (jrow J 353 (sset (J 353) 0 1))) := by
    intro Q
    rw [sg_312_34, sg_312_35]
    refine Eq.trans (sp_178f (W := W) 1) ?_
    simp only [sset_ss, zk_l, zk_r, Option.toList_some, Option.toList_none, List.cons_append, List.nil_append, zrokB, zrokB0, zrokB1, zrokJ0, zrokJ1, and_true, true_and, and_self, if_true, if_false, b2_0, b2_1, b2_not, ite_self, jI_cl, jm_n, jz_n, i_lit, i_c0, i_c1, Int.toNat_of_nonneg, Int.toNat_natCast, jrow_same, jrow_ne, jrow_jrow, sset_eq, sset_ne]
    rw [sg_312_39, if_neg (by decide), sg_312_60]
  by_cases vv : (0 ≤ a ∧ a < J 355 4) ∧ (0 ≤ b ∧ b < J 355 5) ∧ (0 ≤ c ∧ c < J 355 5)
  · obtain ⟨v, w, z⟩ := vv
    have href : ∀ (J2 : zJ), J2 355 = J 355 → ∀ Q : zO → zI → Prop, wz W 312 0 [.ref 353, .int (jI a), .int (jI b), .int (jI c), .float 0, .float 0, .float 0, .float 0, .float 0, .float 0, .float 0, .float 0] [] (jm J2) Q = wz W 178 0 [.ref 353, .int (b2 (decide (b ≠ c))), .int (jI 2)] [] (jm (jrow J2 353 (sset (J2 353) 0 0))) (zk Q (fun v I1 => wz W 312 57 [.ref 353, .int (jI a), .int (jI b), .int (jI c), .float 0, .float 0, .float 0, .float 0, .float 0, .float 0, .float 0, .float 0] (v.toList ++ []) I1 Q)) := by
      intro J2 e55 Q
      have e9 : ∀ f, jrow J2 353 f 355 = J 355 := fun f => e355.trans e55
      rw [sg_312_0]
      simp (disch := first | assumption | omega) only [jI_cl, jm_n, jz_n, i_lit, i_c0, i_c1, Int.toNat_of_nonneg, Int.toNat_natCast, jrow_same, jrow_ne, jrow_jrow, sset_eq, sset_ne]
      rw [sp_215v v.1 (by rw [e9]; exact v.2) (by rw [e9]; exact b8)]
      simp only [zk_l, zk_r, Option.toList_some, Option.toList_none, List.cons_append, List.nil_append, zrokB, zrokB0, zrokB1, zrokJ0, zrokJ1, and_true, true_and, and_self, if_true, if_false, b2_0, b2_1, b2_not, ite_self]
      rw [sg_312_11, if_neg (by decide), sp_216v w.1 (by rw [e9]; exact w.2) (by rw [e9]; exact b10)]
      simp only [zk_l, zk_r, Option.toList_some, Option.toList_none, List.cons_append, List.nil_append, zrokB, zrokB0, zrokB1, zrokJ0, zrokJ1, and_true, true_and, and_self, if_true, if_false, b2_0, b2_1, b2_not, ite_self]
      rw [sg_312_19, if_neg (by decide), sp_216v z.1 (by rw [e9]; exact z.2) (by rw [e9]; exact b10)]
      simp only [zk_l, zk_r, Option.toList_some, Option.toList_none, List.cons_append, List.nil_append, zrokB, zrokB0, zrokB1, zrokJ0, zrokJ1, and_true, true_and, and_self, if_true, if_false, b2_0, b2_1, b2_not, ite_self]
      rw [sg_312_27, if_neg (by decide), sg_312_35]
      refine Eq.trans (sp_178t (W := W) 1) ?_
      simp only [zk_l, zk_r, Option.toList_some, Option.toList_none, List.cons_append, List.nil_append, zrokB, zrokB0, zrokB1, zrokJ0, zrokJ1, and_true, true_and, and_self, if_true, if_false, b2_0, b2_1, b2_not, ite_self]
      rw [sg_312_39, if_pos (by decide)]
      by_cases q : b = c
      · rw [if_pos (by rw [q]), sg_312_53, decide_eq_false (by omega)]; rfl
      · rw [if_neg (by rw [jI_eq (by omega) (by omega) (by omega) (by omega)]; exact q), sg_312_53, decide_eq_true q]; rfl
    have hcls : ∀ Q : zO → zI → Prop, wz W 150 0 [.ref 0, .int (jI a), .int (jI b), .int (jI c), .float 0, .float 0] [] (jm J) Q = wz W 150 15 [.ref 0, .int (jI a), .int (jI b), .int (jI c), .float 0, .float 0] [] (jm J) Q := by
      intro Q
      rw [sg_150_0, sp_164v v.1 (by omega) (by omega)]
      simp only [zk_l, zk_r, Option.toList_some, Option.toList_none, List.cons_append, List.nil_append, zrokB, zrokB0, zrokB1, zrokJ0, zrokJ1, and_true, true_and, and_self, if_true, if_false, b2_0, b2_1, b2_not, ite_self]
      rw [sg_150_5, sp_162v w.1 (by omega) (by omega)]
      simp only [zk_l, zk_r, Option.toList_some, Option.toList_none, List.cons_append, List.nil_append, zrokB, zrokB0, zrokB1, zrokJ0, zrokJ1, and_true, true_and, and_self, if_true, if_false, b2_0, b2_1, b2_not, ite_self]
      rw [sg_150_10, sp_162v z.1 (by omega) (by omega)]
      simp only [zk_l, zk_r, Option.toList_some, Option.toList_none, List.cons_append, List.nil_append, zrokB, zrokB0, zrokB1, zrokJ0, zrokJ1, and_true, true_and, and_self, if_true, if_false, b2_0, b2_1, b2_not, ite_self]
    by_cases hbc : b = c
    · refine ⟨oE 1, J, 0, jrow J 353 (sset (J 353) 0 2), fun Q => ?_, fun Q => ?_, kp_thr, mt_er 1 1 rfl rfl⟩
      · rw [hcls, sg_150_15, if_pos (by rw [hbc])]
      · rw [href J rfl, decide_eq_false (by omega)]
        refine Eq.trans (sp_178f (W := W) 2) ?_
        simp only [sset_ss, zk_l, zk_r, Option.toList_some, Option.toList_none, List.cons_append, List.nil_append, zrokB, zrokB0, zrokB1, zrokJ0, zrokJ1, and_true, true_and, and_self, if_true, if_false, b2_0, b2_1, b2_not, ite_self, jI_cl, jm_n, jz_n, i_lit, i_c0, i_c1, Int.toNat_of_nonneg, Int.toNat_natCast, jrow_same, jrow_ne, jrow_jrow, sset_eq, sset_ne]
        rw [sg_312_57, if_neg (by decide), sg_312_60]
    · obtain ⟨en, n1, n2, rr1, rr2, w1, w2, c3⟩ := nC_eq t2 v.1 v.2
      obtain ⟨a0', r1', r2', -⟩ := hU.2.2.2.2.2.2.2.2.1 a v.1 v.2
      obtain ⟨g0, hgb, -⟩ := RU_g hU t2 w.1 w.2
      obtain ⟨g1, hgc, -⟩ := RU_g hU t2 z.1 z.2
      have hcb : zChb (5 + 19 + a.toNat) := zStp_c zStp_5 (by omega)
      obtain ⟨R, hR⟩ : ∃ R : Nat, gR (J 355) a = R := ⟨(gR (J 355) a).toNat, by omega⟩
      obtain ⟨wd, hwd⟩ : ∃ wd : Nat, gC (J 355) a = wd := ⟨(gC (J 355) a).toNat, by omega⟩
      have hnC : nC (J 355) a = R * wd := by
        have : ((nC (J 355) a : Nat) : Int) = ((R * wd : Nat) : Int) := by rw [en, hR, hwd, Int.natCast_mul]
        omega
      have h78 := fun (Q : zO → zI → Prop) => sp_78 (W := W) (Q := Q) hcx v.1 v.2 w.1 w.2
      have h78c := fun (Q : zO → zI → Prop) => sp_78 (W := W) (Q := Q) hcx v.1 v.2 z.1 z.2
      have h304 := fun (J2 : zJ) (e55 : J2 355 = J 355) (Q : zO → zI → Prop) => sp_304 (W := W) (J := J2) (Q := Q) (D := 365) (k := k) (by rw [e55]; exact t2) (by rw [e55]; exact t3) v.1 (by rw [e55]; exact v.2) w.1 (by rw [e55]; exact w.2)
      have h304c := fun (J2 : zJ) (e55 : J2 355 = J 355) (Q : zO → zI → Prop) => sp_304 (W := W) (J := J2) (Q := Q) (D := 365) (k := k) (by rw [e55]; exact t2) (by rw [e55]; exact t3) v.1 (by rw [e55]; exact v.2) z.1 (by rw [e55]; exact z.2)
      rw [hnC] at h78 h78c
      -- the reference
      have hrf : ∀ J2 : zJ, J2 355 = J 355 → ∃ (M : Nat) (J3 : zJ), (∀ Q : zO → zI → Prop, wz W 312 0 [.ref 353, .int (jI a), .int (jI b), .int (jI c), .float 0, .float 0, .float 0, .float 0, .float 0, .float 0, .float 0, .float 0] [] (jm J2) Q = Q (oI M) (jm J3)) ∧ ans (pX (fun i => saB (J 355) a b i) (fun i => saB (J 355) a c i) (bad (J 355) b c) wd (R * wd)) 25 M ∧ J3 353 = sset (J2 353) 0 0 ∧ ∀ r, r ≠ 353 → r ≠ 361 → r ≠ 362 → J3 r = J2 r := by
        intro J2 e55
        have e9 : ∀ f, jrow J2 353 f 355 = J 355 := fun f => e355.trans e55
        let Ja : zJ := jrow J2 353 (sset (J2 353) 0 0)
        have ea55 : Ja 355 = J 355 := e9 _
        generalize hbd : bad (J 355) b c = bd at *
        -- emptied, and the first entry
        let f0 : Int → Int := fun i => if i = 0 then 0 else -1
        have k0 := fun Q => zloop (f := fun i => wz W 312 97 [.ref 353, .int (jI a), .int (jI b), .int (jI c), .int (mk (R * wd) (saB (J 355) a b)), .int (mk (R * wd) (saB (J 355) a c)), .int (b2 bd), .int (jI wd), .int (jI i), .float 0, .float 0, .float 0] [] (jm (jrow Ja 361 (scpy f0 (Ja 361) i))) Q) 2025 (fun i hi => by
          try simp only
          have e1 : ∀ x : Int, x = f0 i → sset (scpy f0 (Ja 361) i) i x = scpy f0 (Ja 361) (i + 1 : Nat) := by
            intro x hx
            funext j
            unfold sset scpy
            by_cases c : j = i
            · rw [if_pos c, if_pos (by omega), c, hx]
            · rw [if_neg c]
              by_cases c2 : 0 ≤ j ∧ j < i
              · rw [if_pos c2, if_pos (by omega)]
              · rw [if_neg c2, if_neg (by omega)]
          rw [sg_312_97, if_neg (by rw [jI_le (by omega) (by omega) (by omega) (by omega)]; omega)]
          by_cases c : (i : Int) = 0
          · rw [if_pos (by rw [c]; rfl), sg_312_121 (hqt0 := za_361)]
            simp (disch := first | assumption | omega) only [zk_l, zk_r, Option.toList_some, Option.toList_none, List.cons_append, List.nil_append, zrokB, zrokB0, zrokB1, zrokJ0, zrokJ1, and_true, true_and, and_self, if_true, if_false, b2_0, b2_1, b2_not, ite_self, Int.add_zero, jI_nat, jI_add, jI_sub, jI_mul, jI_neg, jI_lt, jI_le, jI_eq, jI_lt0, jI_0lt, jI_le0, jI_0le, jI_eq0, jI_in, jI_dv, i_mod, jI_cl, jm_n, jz_n, i_lit, i_c0, i_c1, Int.toNat_of_nonneg, Int.toNat_natCast, jrow_same, jrow_ne, jrow_jrow, sset_eq, sset_ne]
            rw [e1 0 (if_pos c).symm]
            rfl
          · rw [if_neg (by rw [jI_eq0 (by omega) (by omega)]; exact c), sg_312_121 (hqt0 := za_361)]
            simp (disch := first | assumption | omega) only [zk_l, zk_r, Option.toList_some, Option.toList_none, List.cons_append, List.nil_append, zrokB, zrokB0, zrokB1, zrokJ0, zrokJ1, and_true, true_and, and_self, if_true, if_false, b2_0, b2_1, b2_not, ite_self, Int.add_zero, jI_nat, jI_add, jI_sub, jI_mul, jI_neg, jI_lt, jI_le, jI_eq, jI_lt0, jI_0lt, jI_le0, jI_0le, jI_eq0, jI_in, jI_dv, i_mod, jI_cl, jm_n, jz_n, i_lit, i_c0, i_c1, Int.toNat_of_nonneg, Int.toNat_natCast, jrow_same, jrow_ne, jrow_jrow, sset_eq, sset_ne]
            rw [e1 (-1) (if_neg c).symm]
            rfl)
        let Jb : zJ := jrow Ja 361 (scpy f0 (Ja 361) 2025)
        have hb61 : Jb 361 = scpy f0 (Ja 361) 2025 := jrow_same
        have hrep0 : rep (pX (fun i => saB (J 355) a b i) (fun i => saB (J 355) a c i) bd wd 0) 25 (Jb 361) := by
          rw [hb61]
          exact rep_0 (Or.inr rfl) (by omega) (by omega) (by rw [scpy_in (by decide) (by decide)]; rfl) (fun i i0 i1 => by
            rw [scpy_in (by omega) (by omega)]
            exact if_neg (by omega))
        have hchain : ∀ Q : zO → zI → Prop, wz W 312 0 [.ref 353, .int (jI a), .int (jI b), .int (jI c), .float 0, .float 0, .float 0, .float 0, .float 0, .float 0, .float 0, .float 0] [] (jm J2) Q = wz W 312 131 [.ref 353, .int (jI a), .int (jI b), .int (jI c), .int (mk (R * wd) (saB (J 355) a b)), .int (mk (R * wd) (saB (J 355) a c)), .int (b2 bd), .int (jI wd), .int (jI (0 : Nat)), .float 0, .float 0, .float 0] [] (jm Jb) Q := by
          intro Q
          rw [href J2 e55, decide_eq_true hbc]
          refine Eq.trans (sp_178t (W := W) 2) ?_
          simp only [zk_l, zk_r, Option.toList_some, Option.toList_none, List.cons_append, List.nil_append, zrokB, zrokB0, zrokB1, zrokJ0, zrokJ1, and_true, true_and, and_self, if_true, if_false, b2_0, b2_1, b2_not, ite_self]
          have q1 := h304 Ja ea55
          have q2 := h304c Ja ea55
          rw [ea55, hnC] at q1 q2
          rw [sg_312_57, if_pos (by decide)]
          refine (q1 _).trans ?_
          simp only [zk_l, zk_r, Option.toList_some, Option.toList_none, List.cons_append, List.nil_append, zrokB, zrokB0, zrokB1, zrokJ0, zrokJ1, and_true, true_and, and_self, if_true, if_false, b2_0, b2_1, b2_not, ite_self]
          rw [sg_312_68]
          refine (q2 _).trans ?_
          simp only [zk_l, zk_r, Option.toList_some, Option.toList_none, List.cons_append, List.nil_append, zrokB, zrokB0, zrokB1, zrokJ0, zrokJ1, and_true, true_and, and_self, if_true, if_false, b2_0, b2_1, b2_not, ite_self]
          rw [sg_312_76]
          refine (sp_228k (J := Ja) (by rw [ea55]; exact t2) w.1 (by rw [ea55]; exact w.2) z.1 (by rw [ea55]; exact z.2)).trans ?_
          rw [ea55, hbd]
          simp only [zk_l, zk_r, Option.toList_some, Option.toList_none, List.cons_append, List.nil_append, zrokB, zrokB0, zrokB1, zrokJ0, zrokJ1, and_true, true_and, and_self, if_true, if_false, b2_0, b2_1, b2_not, ite_self]
          rw [sg_312_84]
          refine (sp_219 (J := Ja) (c := a) (k := 2) (by omega) (by omega) v.1 (by omega)).trans ?_
          have e2 : Ja 355 (12 + 8 * a + 2) = wd := by rw [ea55]; exact hwd
          rw [e2]
          simp only [zk_l, zk_r, Option.toList_some, Option.toList_none, List.cons_append, List.nil_append, zrokB, zrokB0, zrokB1, zrokJ0, zrokJ1, and_true, true_and, and_self, if_true, if_false, b2_0, b2_1, b2_not, ite_self]
          rw [sg_312_92]
          have h := k0 Q
          have e00 : scpy f0 (Ja 361) ((0 : Nat) : Int) = Ja 361 := by
            funext j
            exact if_neg (by omega)
          rw [e00, jrow_id] at h
          refine Eq.trans h ?_
          rw [sg_312_97, if_pos (by decide)]
          rfl
        -- the rows
        have rows : ∀ m : Nat, m ≤ R → ∀ (J4 : zJ) (x9 x10 x11 : Value), (∀ q, q ≠ 361 → q ≠ 362 → J4 q = Ja q) → rep (pX (fun i => saB (J 355) a b i) (fun i => saB (J 355) a c i) bd wd (wd * (R - m))) 25 (J4 361) → ∃ (J5 : zJ) (z9 z10 z11 : Value), (∀ Q : zO → zI → Prop, wz W 312 131 [.ref 353, .int (jI a), .int (jI b), .int (jI c), .int (mk (R * wd) (saB (J 355) a b)), .int (mk (R * wd) (saB (J 355) a c)), .int (b2 bd), .int (jI wd), .int (jI (R - m : Nat)), x9, x10, x11] [] (jm J4) Q = wz W 312 131 [.ref 353, .int (jI a), .int (jI b), .int (jI c), .int (mk (R * wd) (saB (J 355) a b)), .int (mk (R * wd) (saB (J 355) a c)), .int (b2 bd), .int (jI wd), .int (jI R), z9, z10, z11] [] (jm J5) Q) ∧ (∀ q, q ≠ 361 → q ≠ 362 → J5 q = Ja q) ∧ rep (pX (fun i => saB (J 355) a b i) (fun i => saB (J 355) a c i) bd wd (wd * R)) 25 (J5 361) := by
          intro m
          induction m with
          | zero =>
            intro _ J4 x9 x10 x11 hf hrep
            rw [Nat.sub_zero] at hrep ⊢
            exact ⟨J4, x9, x10, x11, fun Q => rfl, hf, hrep⟩
          | succ m ih =>
            intro hm J4 x9 x10 x11 hf hrep
            have hl : R - m = R - (m + 1) + 1 := by omega
            have hlt : R - (m + 1) < R := by omega
            have hmul : wd * (R - (m + 1)) + wd ≤ R * wd := by
              rw [← Nat.mul_succ, Nat.mul_comm R wd]
              exact Nat.mul_le_mul_left _ hlt
            obtain ⟨J5, z9, z10, z11, r5, s5, f5⟩ := pr_row (W := W) (J := J4) (A' := saB (J 355) a b) (B' := saB (J 355) a c) (bad := bd) (w := wd) (n := R * wd) (r := R - (m + 1)) (by omega) (by omega) (by omega) hmul (by omega) hrep (jI a) (jI b) (jI c) (.float 0) x10 x11
            rw [← hl] at r5 s5
            have hf5 : ∀ q, q ≠ 361 → q ≠ 362 → J5 q = Ja q := fun q q1 q2 => by rw [f5 q q1 q2, hf q q1 q2]
            obtain ⟨J6, w9, w10, w11, r6, f6, s6⟩ := ih (by omega) J5 z9 z10 z11 hf5 s5
            refine ⟨J6, w9, w10, w11, fun Q => ?_, f6, s6⟩
            have e4 : J4 355 = J 355 := by rw [hf 355 (by decide) (by decide)]; exact ea55
            rw [sg_312_131, sp_219 (c := a) (k := 1) (by omega) (by omega) v.1 (by omega), e4, show J 355 (12 + 8 * a + 1) = R from hR]
            simp only [zk_l, zk_r, Option.toList_some, Option.toList_none, List.cons_append, List.nil_append, zrokB, zrokB0, zrokB1, zrokJ0, zrokJ1, and_true, true_and, and_self, if_true, if_false, b2_0, b2_1, b2_not, ite_self]
            rw [sg_312_139, if_neg (by rw [jI_le (by omega) (by omega) (by omega) (by omega)]; omega)]
            exact (r5 Q).trans (r6 Q)
        obtain ⟨J5, z9, z10, z11, r5, f5, s5⟩ := rows R (Nat.le_refl _) Jb (.float 0) (.float 0) (.float 0) (fun q q1 q2 => jrow_ne q1) (by rw [Nat.sub_self, Nat.mul_zero]; exact hrep0)
        rw [Nat.sub_self] at r5
        rw [Nat.mul_comm wd R] at s5
        have hbb : ∀ p m : Nat, p < 81 → m < 25 → -1 ≤ J5 361 (25 * p + m : Nat) ∧ J5 361 (25 * p + m : Nat) ≤ 100 := by
          intro p m hp hm
          obtain ⟨x, y⟩ := s5.1 p m hp hm
          refine ⟨x, ?_⟩
          by_cases c : J5 361 (25 * p + m : Nat) = -1
          · omega
          · have := pX_bd (y c); omega
        obtain ⟨M, rM, bM⟩ := pr_best (W := W) (J := J5) (A' := saB (J 355) a b) (B' := saB (J 355) a c) (bad := bd) (w := wd) (n := R * wd) hbb (jI a) (jI b) (jI c) z10 z11
        refine ⟨M, J5, fun Q => ?_, bal_ans (fun p m s h => pX_lt h) s5 bM, ?_, fun r h3 h61 h62 => ?_⟩
        · have e5 : J5 355 = J 355 := by rw [f5 355 (by decide) (by decide)]; exact ea55
          rw [hchain]
          refine (r5 Q).trans ?_
          rw [sg_312_131, sp_219 (c := a) (k := 1) (by omega) (by omega) v.1 (by omega), e5, show J 355 (12 + 8 * a + 1) = R from hR]
          simp only [zk_l, zk_r, Option.toList_some, Option.toList_none, List.cons_append, List.nil_append, zrokB, zrokB0, zrokB1, zrokJ0, zrokJ1, and_true, true_and, and_self, if_true, if_false, b2_0, b2_1, b2_not, ite_self]
          rw [sg_312_139, if_pos (Int32.le_refl _)]
          exact rM Q
        · rw [f5 353 (by decide) (by decide)]
          exact jrow_same
        · rw [f5 r h61 h62]
          exact jrow_ne h3
      have hcl0 : ∀ Q : zO → zI → Prop, wz W 150 0 [.ref 0, .int (jI a), .int (jI b), .int (jI c), .float 0, .float 0] [] (jm J) Q = wz W 150 72 [.ref 0, .int (jI a), .int (jI b), .int (jI c), .int (mk (R * wd) (saB (J 355) a b)), .int (mk (R * wd) (saB (J 355) a c))] [.int (b2 (bad (J 355) b c))] (jm J) Q := by
        intro Q
        rw [hcls, sg_150_15, if_neg (by rw [jI_eq (by omega) (by omega) (by omega) (by omega)]; exact hbc)]
        refine (h78 _).trans ?_
        simp only [zk_l, zk_r, Option.toList_some, Option.toList_none, List.cons_append, List.nil_append, zrokB, zrokB0, zrokB1, zrokJ0, zrokJ1, and_true, true_and, and_self, if_true, if_false, b2_0, b2_1, b2_not, ite_self]
        rw [sg_150_40]
        refine (h78c _).trans ?_
        simp only [zk_l, zk_r, Option.toList_some, Option.toList_none, List.cons_append, List.nil_append, zrokB, zrokB0, zrokB1, zrokJ0, zrokJ1, and_true, true_and, and_self, if_true, if_false, b2_0, b2_1, b2_not, ite_self]
        rw [sg_150_51, sp_52 zStp_5 w.1 g0]
        simp only [zk_l, zk_r, Option.toList_some, Option.toList_none, List.cons_append, List.nil_append, zrokB, zrokB0, zrokB1, zrokJ0, zrokJ1, and_true, true_and, and_self, if_true, if_false, b2_0, b2_1, b2_not, ite_self]
        rw [sg_150_61 (hqt0 := hgb), sp_52 zStp_5 z.1 g1]
        simp only [zk_l, zk_r, Option.toList_some, Option.toList_none, List.cons_append, List.nil_append, zrokB, zrokB0, zrokB1, zrokJ0, zrokJ1, and_true, true_and, and_self, if_true, if_false, b2_0, b2_1, b2_not, ite_self]
        rw [sg_150_69 (hqt0 := hgb) (hqt1 := hgc), sp_10s hU t2 w.1 w.2 z.1 z.2]
        simp only [zk_l, zk_r, Option.toList_some, Option.toList_none, List.cons_append, List.nil_append, zrokB, zrokB0, zrokB1, zrokJ0, zrokJ1, and_true, true_and, and_self, if_true, if_false, b2_0, b2_1, b2_not, ite_self]
      cases hbd : bad (J 355) b c with
      | false =>
        obtain ⟨M, J3, r3, a3, t3', f3⟩ := hrf J rfl
        rw [hbd] at a3
        have hM := ans_mix (by omega) (by omega) (by omega) a3
        have hv : min ((cntB (fun i => saB (J 355) a b (i : Int) || saB (J 355) a c (i : Int)) (R * wd) : Int) / 2) (min (cntB (fun i => saB (J 355) a b (i : Int)) (R * wd) : Int) (cntB (fun i => saB (J 355) a c (i : Int)) (R * wd) : Int)) = M := by
          rw [hM]
          omega
        refine ⟨oI M, J, M, J3, fun Q => ?_, r3, ?_, Or.inl ⟨rfl, by rw [t3', sset_eq rfl]⟩⟩
        · rw [hcl0, hbd, sg_150_72, if_pos (by decide), sp_19 (by omega), hv]
          simp only [zk_l, zk_r, Option.toList_some, Option.toList_none, List.cons_append, List.nil_append, zrokB, zrokB0, zrokB1, zrokJ0, zrokJ1, and_true, true_and, and_self, if_true, if_false, b2_0, b2_1, b2_not, ite_self]
          rw [sg_150_102]
        · refine ⟨fun r hr => f3 r (by omega) (by omega) (by omega), ?_, ?_, ?_⟩ <;> (rw [t3', sset_ne (by decide)])
      | true =>
        obtain ⟨M, J4, r4, a4, f4⟩ := sp_20 (W := W) (J := J) (c := 5 + 19 + a.toNat) (R := R) (w := wd) hcb (by rw [r1']; exact hR) (by rw [r2']; exact hwd) (by omega) (by omega) (by omega) (by omega) (saB (J 355) a b) (saB (J 355) a c) (by omega) (by omega)
        obtain ⟨M', J3, r3, a3, t3', f3⟩ := hrf J4 (f4 355 (by decide) (by decide))
        rw [hbd] at a3
        have hM := ans_eq (by omega) (by omega) (by omega) a4 a3
        subst hM
        refine ⟨oI M, J4, M, J3, fun Q => ?_, r3, ?_, Or.inl ⟨rfl, by rw [t3', sset_eq rfl]⟩⟩
        · rw [hcl0, hbd, sg_150_72, if_neg (by decide), sp_53 zStp_5 v.1 c3]
          simp only [zk_l, zk_r, Option.toList_some, Option.toList_none, List.cons_append, List.nil_append, zrokB, zrokB0, zrokB1, zrokJ0, zrokJ1, and_true, true_and, and_self, if_true, if_false, b2_0, b2_1, b2_not, ite_self]
          rw [sg_150_87 (hqt1 := hcb)]
          refine (r4 _).trans ?_
          simp only [zk_l, zk_r, Option.toList_some, Option.toList_none, List.cons_append, List.nil_append, zrokB, zrokB0, zrokB1, zrokJ0, zrokJ1, and_true, true_and, and_self, if_true, if_false, b2_0, b2_1, b2_not, ite_self]
          rw [sg_150_94]
        · have e53 := f4 353 (by decide) (by decide)
          refine ⟨fun r hr => by rw [f3 r (by omega) (by omega) (by omega), f4 r (by omega) (by omega)], ?_, ?_, ?_⟩ <;> (rw [t3', sset_ne (by decide), e53])
  · refine ⟨oE 0, J, 0, jrow J 353 (sset (J 353) 0 1), fun Q => ?_, fun Q => ?_, kp_thr, mt_er 0 0 rfl rfl⟩
    · rw [sg_150_0]
      by_cases v : 0 ≤ a ∧ a < J 355 4
      · rw [sp_164v v.1 (by omega) (by omega)]
        simp only [zk_l, zk_r, Option.toList_some, Option.toList_none, List.cons_append, List.nil_append, zrokB, zrokB0, zrokB1, zrokJ0, zrokJ1, and_true, true_and, and_self, if_true, if_false, b2_0, b2_1, b2_not, ite_self]
        rw [sg_150_5]
        by_cases w : 0 ≤ b ∧ b < J 355 5
        · rw [sp_162v w.1 (by omega) (by omega)]
          simp only [zk_l, zk_r, Option.toList_some, Option.toList_none, List.cons_append, List.nil_append, zrokB, zrokB0, zrokB1, zrokJ0, zrokJ1, and_true, true_and, and_self, if_true, if_false, b2_0, b2_1, b2_not, ite_self]
          rw [sg_150_10, sp_162n y1 y2 (by rw [hu0]; exact fun z => vv ⟨v, w, z⟩) (by omega) (by omega)]
          simp only [zk_l, zk_r, Option.toList_some, Option.toList_none, List.cons_append, List.nil_append, zrokB, zrokB0, zrokB1, zrokJ0, zrokJ1, and_true, true_and, and_self, if_true, if_false, b2_0, b2_1, b2_not, ite_self]
        · rw [sp_162n x1 x2 (by rw [hu0]; exact w) (by omega) (by omega)]
          simp only [zk_l, zk_r, Option.toList_some, Option.toList_none, List.cons_append, List.nil_append, zrokB, zrokB0, zrokB1, zrokJ0, zrokJ1, and_true, true_and, and_self, if_true, if_false, b2_0, b2_1, b2_not, ite_self]
      · rw [sp_164n a1 a2 (by rw [hu3]; exact v) (by omega) (by omega)]
        simp only [zk_l, zk_r, Option.toList_some, Option.toList_none, List.cons_append, List.nil_append, zrokB, zrokB0, zrokB1, zrokJ0, zrokJ1, and_true, true_and, and_self, if_true, if_false, b2_0, b2_1, b2_not, ite_self]
    · rw [sg_312_0]
      simp (disch := first | assumption | omega) only [jI_cl, jm_n, jz_n, i_lit, i_c0, i_c1, Int.toNat_of_nonneg, Int.toNat_natCast, jrow_same, jrow_ne, jrow_jrow, sset_eq, sset_ne]
      by_cases v : 0 ≤ a ∧ a < J 355 4
      · rw [sp_215v v.1 (by rw [e355]; exact v.2) (by rw [e355]; exact b8)]
        simp only [zk_l, zk_r, Option.toList_some, Option.toList_none, List.cons_append, List.nil_append, zrokB, zrokB0, zrokB1, zrokJ0, zrokJ1, and_true, true_and, and_self, if_true, if_false, b2_0, b2_1, b2_not, ite_self]
        rw [sg_312_11, if_neg (by decide)]
        by_cases w : 0 ≤ b ∧ b < J 355 5
        · rw [sp_216v w.1 (by rw [e355]; exact w.2) (by rw [e355]; exact b10)]
          simp only [zk_l, zk_r, Option.toList_some, Option.toList_none, List.cons_append, List.nil_append, zrokB, zrokB0, zrokB1, zrokJ0, zrokJ1, and_true, true_and, and_self, if_true, if_false, b2_0, b2_1, b2_not, ite_self]
          rw [sg_312_19, if_neg (by decide), sp_216n y1 y2 (by rw [e355]; exact fun z => vv ⟨v, w, z⟩) (by rw [e355]; exact b9) (by rw [e355]; exact b10)]
          simp only [zk_l, zk_r, Option.toList_some, Option.toList_none, List.cons_append, List.nil_append, zrokB, zrokB0, zrokB1, zrokJ0, zrokJ1, and_true, true_and, and_self, if_true, if_false, b2_0, b2_1, b2_not, ite_self]
          rw [sg_312_27, if_pos (by decide), hbad]
        · rw [sp_216n x1 x2 (by rw [e355]; exact w) (by rw [e355]; exact b9) (by rw [e355]; exact b10)]
          simp only [zk_l, zk_r, Option.toList_some, Option.toList_none, List.cons_append, List.nil_append, zrokB, zrokB0, zrokB1, zrokJ0, zrokJ1, and_true, true_and, and_self, if_true, if_false, b2_0, b2_1, b2_not, ite_self]
          rw [sg_312_19, if_pos (by decide), hbad]
      · rw [sp_215n a1 a2 (by rw [e355]; exact v) (by rw [e355]; exact b7) (by rw [e355]; exact b8)]
        simp only [zk_l, zk_r, Option.toList_some, Option.toList_none, List.cons_append, List.nil_append, zrokB, zrokB0, zrokB1, zrokJ0, zrokJ1, and_true, true_and, and_self, if_true, if_false, b2_0, b2_1, b2_not, ite_self]
        rw [sg_312_11, if_pos (by decide), hbad]
end
