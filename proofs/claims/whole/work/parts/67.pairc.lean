/-! ===== the class's counting of pairs ===== -/
/-- what stands in a table is so -/
def sdN (P : Nat → Nat → Nat → Prop) (cap : Nat) (N : Int → Int) : Prop := ∀ p m : Nat, p < 81 → m < cap → -1 ≤ N (cap * p + m : Nat) ∧ (N (cap * p + m : Nat) ≠ -1 → P p m (N (cap * p + m : Nat)).toNat)
def rep (P : Nat → Nat → Nat → Prop) (cap : Nat) (N : Int → Int) : Prop := sdN P cap N ∧ ∀ p m s : Nat, p < 81 → m < cap → P p m s → (s : Int) ≤ N (cap * p + m : Nat)
def rse (N : Int → Int) (i v : Int) : Int → Int := sset N i (max (N i) v)
theorem rse_le (N : Int → Int) (i v j : Int) : N j ≤ rse N i v j := by
  unfold rse sset
  split
  · rename_i h; rw [h]; omega
  · exact Int.le_refl _
theorem rse_at (N : Int → Int) (i v : Int) : v ≤ rse N i v i := by
  unfold rse
  rw [sset_eq rfl]
  omega
theorem ix_inj {cap p m p' m' : Nat} (hc : cap = 13 ∨ cap = 25) (hm : m < cap) (hm' : m' < cap) (h : cap * p + m = cap * p' + m') : p = p' ∧ m = m' := by
  rcases hc with rfl | rfl
  · omega
  · omega
theorem rse_sd {P : Nat → Nat → Nat → Prop} {cap : Nat} {N : Int → Int} (hc : cap = 13 ∨ cap = 25) (h : sdN P cap N) {p m v : Nat} (hm : m < cap) (hP : P p m v) : sdN P cap (rse N (cap * p + m : Nat) v) := by
  intro p' m' hp' hm'
  obtain ⟨h1, h2⟩ := h p' m' hp' hm'
  unfold rse
  by_cases e : cap * p' + m' = cap * p + m
  · obtain ⟨rfl, rfl⟩ := ix_inj hc hm' hm e
    rw [sset_eq rfl]
    refine ⟨by omega, fun h9 => ?_⟩
    by_cases c : N (cap * p' + m' : Nat) ≤ v
    · rw [show max (N (cap * p' + m' : Nat)) (v : Int) = v by omega]
      exact hP
    · rw [show max (N (cap * p' + m' : Nat)) (v : Int) = N (cap * p' + m' : Nat) by omega]
      exact h2 (by omega)
  · rw [sset_ne (by omega)]
    exact ⟨h1, h2⟩
section
variable {W : zW} {J : zJ} {Q : zO → zI → Prop}
theorem dg_div (p i : Nat) : p / 3 ^ i / 3 = p / 3 ^ (i + 1) := by rw [Nat.div_div_eq_div_mul, Nat.pow_succ]

theorem sp_22 {p c : Nat} (hp : p < 81) (hc : c < 4) : wz W 22 0 [.int (jI p), .int (jI c), .float 0, .float 0] [] (jm J) Q = Q (oI (dg p c)) (jm J) := by
  have hb : ∀ i, p / 3 ^ i ≤ p := fun i => Nat.div_le_self _ _
  have key := zloop (f := fun i => wz W 22 4 [.int (jI p), .int (jI c), .int (jI (p / 3 ^ i : Nat)), .int (jI i)] [] (jm J) Q) c (fun i hi => by
    try simp only
    have h1 := hb i
    rw [← dg_div]
    generalize p / 3 ^ i = x at *
    rw [sg_22_4, if_neg (by rw [jI_le (by omega) (by omega) (by omega) (by omega)]; omega), jI_dv (by omega) (by omega) (by decide) (by decide), jI_add, show (x : Int) / 3 = (x / 3 : Nat) by omega]
    rfl)
  have h1 := hb c
  rw [sg_22_0]
  have e0 : p / 3 ^ 0 = p := Nat.div_one p
  rw [e0] at key
  refine Eq.trans key ?_
  have hd : dg p c = p / 3 ^ c % 3 := rfl
  rw [hd]
  generalize p / 3 ^ c = x at *
  rw [sg_22_4, if_pos (Int32.le_refl _)]
  simp (disch := first | assumption | omega) only [Int.add_zero, jI_nat, jI_add, jI_sub, jI_mul, jI_neg, jI_lt, jI_le, jI_eq, jI_lt0, jI_0lt, jI_le0, jI_0le, jI_eq0, jI_in, jI_dv, i_mod]
  rw [show (x : Int) % 3 = (x % 3 : Nat) by omega]

theorem sp_307 {p c : Nat} (hp : p < 81) (hc : c < 4) : wz W 307 0 [.int (jI p), .int (jI c), .float 0, .float 0] [] (jm J) Q = Q (oI (dg p c)) (jm J) := by
  have hb : ∀ i, p / 3 ^ i ≤ p := fun i => Nat.div_le_self _ _
  have key := zloop (f := fun i => wz W 307 4 [.int (jI p), .int (jI c), .int (jI (p / 3 ^ i : Nat)), .int (jI i)] [] (jm J) Q) c (fun i hi => by
    try simp only
    have h1 := hb i
    rw [← dg_div]
    generalize p / 3 ^ i = x at *
    rw [sg_307_4, if_neg (by rw [jI_le (by omega) (by omega) (by omega) (by omega)]; omega), jI_dv (by omega) (by omega) (by decide) (by decide), jI_add, show (x : Int) / 3 = (x / 3 : Nat) by omega]
    rfl)
  have h1 := hb c
  rw [sg_307_0]
  have e0 : p / 3 ^ 0 = p := Nat.div_one p
  rw [e0] at key
  refine Eq.trans key ?_
  have hd : dg p c = p / 3 ^ c % 3 := rfl
  rw [hd]
  generalize p / 3 ^ c = x at *
  rw [sg_307_4, if_pos (Int32.le_refl _)]
  simp (disch := first | assumption | omega) only [Int.add_zero, jI_nat, jI_add, jI_sub, jI_mul, jI_neg, jI_lt, jI_le, jI_eq, jI_lt0, jI_0lt, jI_le0, jI_0le, jI_eq0, jI_in, jI_dv, i_mod]
  rw [show (x : Int) % 3 = (x % 3 : Nat) by omega]

/-- raise -/
theorem sp_23 {i m v : Nat} (hi : 13 * i + m < 1053) (hm : m < 13) (hv : (v : Int) ≤ 100) (hb : -1 ≤ J 350 (13 * i + m : Nat)) (hb2 : J 350 (13 * i + m : Nat) ≤ 100) : wz W 23 0 [.ref 348, .int (jI i), .int (jI m), .int (jI v), .float 0] [] (jm J) Q = Q oV (jm (jrow J 350 (rse (J 350) (13 * i + m : Nat) v))) := by
  have e : (i : Int) * 13 + m = (13 * i + m : Nat) := by omega
  rw [sg_23_0, jI_mul, jI_add, e, sp_45 zRow_349 (by omega) (by omega) (by decide), show J (349 + 1) = J 350 from rfl]
  simp only [zk_l, zk_r, Option.toList_some, Option.toList_none, List.cons_append, List.nil_append, zrokB, zrokB0, zrokB1, zrokJ0, zrokJ1, and_true, true_and, and_self, if_true, if_false, b2_0, b2_1, b2_not, ite_self]
  rw [sg_23_23 (hqt0 := zRow_349), jmax_j (by omega) (by omega) (by omega) (by omega), sp_46 zRow_349 (by omega) (by omega) (by decide)]
  simp only [zk_l, zk_r, Option.toList_some, Option.toList_none, List.cons_append, List.nil_append, zrokB, zrokB0, zrokB1, zrokJ0, zrokJ1, and_true, true_and, and_self, if_true, if_false, b2_0, b2_1, b2_not, ite_self]
  rw [sg_23_30]
  rfl
variable {A B : Nat → Bool} {w : Nat}
/-- one edge and one number of the first -/
theorem sp_21b {k q p m : Nat} (h1 : 1 ≤ w) (h4 : w ≤ 4) (hk : k < 24) (hq : k % w = q) (hp : p < 81) (hm : m < 13) {T N : Int → Int} (hJ : J 352 = T) (hT : sdN (pX A B true w k) 13 T) (hN : sdN (pX A B true w (k + 1)) 13 N) (x12 : Value) (x6 x7 : Int32) :
    ∃ N' y12, (∀ Q : zO → zI → Prop, wz W 21 95 [.ref 348, .int (jI q), .int (jI (3 ^ q : Nat)), .int (b2 (A k)), .int (b2 (B k)), .int (jI p), .int x6, .int x7, .int (b2 (A k && decide (dg p q ≠ 2) && decide (q = 0 ∨ dg p (q - 1) ≠ 2))), .int (b2 (B k && decide (dg p q ≠ 1) && decide (q = 0 ∨ dg p (q - 1) ≠ 1))), .int (jI (p - dg p q * 3 ^ q : Nat)), .int (jI m), x12] [] (jm (jrow J 350 N)) Q = wz W 21 95 [.ref 348, .int (jI q), .int (jI (3 ^ q : Nat)), .int (b2 (A k)), .int (b2 (B k)), .int (jI p), .int x6, .int x7, .int (b2 (A k && decide (dg p q ≠ 2) && decide (q = 0 ∨ dg p (q - 1) ≠ 2))), .int (b2 (B k && decide (dg p q ≠ 1) && decide (q = 0 ∨ dg p (q - 1) ≠ 1))), .int (jI (p - dg p q * 3 ^ q : Nat)), .int (jI (m + 1 : Nat)), y12] [] (jm (jrow J 350 N')) Q) ∧ (∀ i, N i ≤ N' i) ∧ sdN (pX A B true w (k + 1)) 13 N' ∧ (T (13 * p + m : Nat) ≠ -1 → ∀ v, ftC A B true w k p v → m + (if v = 1 then 1 else 0) < 13 → T (13 * p + m : Nat) + (if v = 2 then 1 else 0) ≤ N' (13 * (p - dg p q * 3 ^ q + v * 3 ^ q) + (m + (if v = 1 then 1 else 0)) : Nat)) := by
  have hq4 : q < 4 := by rw [← hq]; exact Nat.lt_of_lt_of_le (Nat.mod_lt k (by omega)) h4
  obtain ⟨t1, t2⟩ := hT p m hp hm
  have e50 : ∀ N, jrow J 350 N (351 + 1) = T := fun N => by rw [jrow_ne (by decide)]; exact hJ
  have hcm : ((p : Int) * 13 + m) = (13 * p + m : Nat) := by omega
  have head : ∀ Q : zO → zI → Prop, wz W 21 95 [.ref 348, .int (jI q), .int (jI (3 ^ q : Nat)), .int (b2 (A k)), .int (b2 (B k)), .int (jI p), .int x6, .int x7, .int (b2 (A k && decide (dg p q ≠ 2) && decide (q = 0 ∨ dg p (q - 1) ≠ 2))), .int (b2 (B k && decide (dg p q ≠ 1) && decide (q = 0 ∨ dg p (q - 1) ≠ 1))), .int (jI (p - dg p q * 3 ^ q : Nat)), .int (jI m), x12] [] (jm (jrow J 350 N)) Q = wz W 21 117 [.ref 348, .int (jI q), .int (jI (3 ^ q : Nat)), .int (b2 (A k)), .int (b2 (B k)), .int (jI p), .int x6, .int x7, .int (b2 (A k && decide (dg p q ≠ 2) && decide (q = 0 ∨ dg p (q - 1) ≠ 2))), .int (b2 (B k && decide (dg p q ≠ 1) && decide (q = 0 ∨ dg p (q - 1) ≠ 1))), .int (jI (p - dg p q * 3 ^ q : Nat)), .int (jI m), x12] [.int (jI (T (13 * p + m : Nat)))] (jm (jrow J 350 N)) Q := by
    intro Q
    rw [sg_21_95, if_neg (by rw [jI_lt (by omega) (by omega) (by omega) (by omega)]; omega), jI_mul, jI_add, hcm, sp_45 zRow_351 (by omega) (by omega) (by decide), e50]
    simp only [zk_l, zk_r, Option.toList_some, Option.toList_none, List.cons_append, List.nil_append, zrokB, zrokB0, zrokB1, zrokJ0, zrokJ1, and_true, true_and, and_self, if_true, if_false, b2_0, b2_1, b2_not, ite_self]
  generalize hff : (A k && decide (dg p q ≠ 2) && decide (q = 0 ∨ dg p (q - 1) ≠ 2)) = ff at *
  generalize hsf : (B k && decide (dg p q ≠ 1) && decide (q = 0 ∨ dg p (q - 1) ≠ 1)) = sf at *
  by_cases hn : T (13 * p + m : Nat) = -1
  · refine ⟨N, .int (jI (-1)), fun Q => ?_, fun i => Int.le_refl _, hN, fun h => absurd hn h⟩
    rw [head, hn, sg_21_117, if_pos rfl, sg_21_182, jI_add]
    rfl
  · have hP := t2 hn
    have hbd := pX_bd hP
    obtain ⟨v, hv⟩ : ∃ v : Nat, T (13 * p + m : Nat) = v := ⟨(T (13 * p + m : Nat)).toNat, by omega⟩
    rw [hv, Int.toNat_natCast] at hP hbd
    have g0 := dg_set (p := p) (q := q) (v := 0) hp hq4 (by decide)
    have g1 := dg_set (p := p) (q := q) (v := 1) hp hq4 (by decide)
    have g2 := dg_set (p := p) (q := q) (v := 2) hp hq4 (by decide)
    have f0 : ftC A B true w k p 0 := ⟨by decide, fun h => (by cases h), fun h => (by cases h), fun _ => ⟨fun _ => by have := dg_le p (k % w - 1); omega, by have := dg_le p (k % w); omega⟩⟩
    have f1 : ftC A B true w k p 1 ↔ ff = true := by
      rw [← hff, Bool.and_eq_true, Bool.and_eq_true, decide_eq_true_eq, decide_eq_true_eq]
      unfold ftC
      rw [hq]
      constructor
      · rintro ⟨-, x1, -, x2⟩
        obtain ⟨x3, x4⟩ := x2 rfl
        refine ⟨⟨x1 rfl, by omega⟩, ?_⟩
        by_cases c : q = 0
        · exact Or.inl c
        · right; have := x3 c; omega
      · rintro ⟨⟨x1, x2⟩, x3⟩
        exact ⟨by decide, fun _ => x1, fun h => (by cases h), fun _ => ⟨fun c => by omega, by omega⟩⟩
    have f2 : ftC A B true w k p 2 ↔ sf = true := by
      rw [← hsf, Bool.and_eq_true, Bool.and_eq_true, decide_eq_true_eq, decide_eq_true_eq]
      unfold ftC
      rw [hq]
      constructor
      · rintro ⟨-, -, x1, x2⟩
        obtain ⟨x3, x4⟩ := x2 rfl
        refine ⟨⟨x1 rfl, by omega⟩, ?_⟩
        by_cases c : q = 0
        · exact Or.inl c
        · right; have := x3 c; omega
      · rintro ⟨⟨x1, x2⟩, x3⟩
        exact ⟨by decide, fun h => (by cases h), fun _ => x1, fun _ => ⟨fun c => by omega, by omega⟩⟩
    have hc0 := pX_cell' h1 h4 hP f0
    rw [hq] at hc0
    simp only [Nat.zero_mul, Nat.add_zero, show ¬ (0 = 1) from by decide, show ¬ (0 = 2) from by decide, if_false] at hc0
    have b100 : ∀ N : Int → Int, sdN (pX A B true w (k + 1)) 13 N → ∀ i : Nat, ∀ j : Nat, i < 81 → j < 13 → -1 ≤ N (13 * i + j : Nat) ∧ N (13 * i + j : Nat) ≤ 100 := by
      intro N h i j hi hj
      obtain ⟨y1, y2⟩ := h i j hi hj
      refine ⟨y1, ?_⟩
      by_cases c : N (13 * i + j : Nat) = -1
      · omega
      · have := pX_bd (y2 c); omega
    -- the three
    have hr0 := b100 N hN (p - dg p q * 3 ^ q) m (by omega) hm
    have s0 := rse_sd (Or.inl rfl) hN hm hc0
    let N0 := rse N (13 * (p - dg p q * 3 ^ q) + m : Nat) v
    have run0 : ∀ Q : zO → zI → Prop, wz W 21 117 [.ref 348, .int (jI q), .int (jI (3 ^ q : Nat)), .int (b2 (A k)), .int (b2 (B k)), .int (jI p), .int x6, .int x7, .int (b2 ff), .int (b2 sf), .int (jI (p - dg p q * 3 ^ q : Nat)), .int (jI m), x12] [.int (jI (T (13 * p + m : Nat)))] (jm (jrow J 350 N)) Q = wz W 21 135 [.ref 348, .int (jI q), .int (jI (3 ^ q : Nat)), .int (b2 (A k)), .int (b2 (B k)), .int (jI p), .int x6, .int x7, .int (b2 ff), .int (b2 sf), .int (jI (p - dg p q * 3 ^ q : Nat)), .int (jI m), .int (jI v)] [] (jm (jrow J 350 N0)) Q := by
      intro Q
      rw [hv, sg_21_117, if_neg (by rw [jI_eq (by omega) (by omega) (by omega) (by omega)]; omega), sp_23 (by omega) hm (by omega) (by rw [jrow_same]; exact hr0.1) (by rw [jrow_same]; exact hr0.2), jrow_same, jrow_jrow]
      simp only [zk_l, zk_r, Option.toList_some, Option.toList_none, List.cons_append, List.nil_append, zrokB, zrokB0, zrokB1, zrokJ0, zrokJ1, and_true, true_and, and_self, if_true, if_false, b2_0, b2_1, b2_not, ite_self]
      rfl
    have two : ∃ N1, (∀ Q : zO → zI → Prop, wz W 21 135 [.ref 348, .int (jI q), .int (jI (3 ^ q : Nat)), .int (b2 (A k)), .int (b2 (B k)), .int (jI p), .int x6, .int x7, .int (b2 ff), .int (b2 sf), .int (jI (p - dg p q * 3 ^ q : Nat)), .int (jI m), .int (jI v)] [] (jm (jrow J 350 N0)) Q = wz W 21 161 [.ref 348, .int (jI q), .int (jI (3 ^ q : Nat)), .int (b2 (A k)), .int (b2 (B k)), .int (jI p), .int x6, .int x7, .int (b2 ff), .int (b2 sf), .int (jI (p - dg p q * 3 ^ q : Nat)), .int (jI m), .int (jI v)] [] (jm (jrow J 350 N1)) Q) ∧ (∀ i, N0 i ≤ N1 i) ∧ sdN (pX A B true w (k + 1)) 13 N1 ∧ (ff = true → m + 1 < 13 → (v : Int) ≤ N1 (13 * (p - dg p q * 3 ^ q + 1 * 3 ^ q) + (m + 1) : Nat)) := by
      cases ff with
      | false =>
        refine ⟨N0, fun Q => ?_, fun i => Int.le_refl _, s0, fun h => by cases h⟩
        rw [sg_21_135, if_pos (by decide)]
      | true =>
        by_cases hm1 : m + 1 < 13
        · have hc1 := pX_cell' h1 h4 hP (f1.mpr rfl)
          rw [hq] at hc1
          simp only [show ¬ (1 = 2) from by decide, if_true, if_false, Nat.add_zero] at hc1
          have hr1 := b100 N0 s0 (p - dg p q * 3 ^ q + 1 * 3 ^ q) (m + 1) (by omega) hm1
          refine ⟨rse N0 (13 * (p - dg p q * 3 ^ q + 1 * 3 ^ q) + (m + 1) : Nat) v, fun Q => ?_, rse_le _ _ _, rse_sd (Or.inl rfl) s0 hm1 hc1, fun _ _ => rse_at _ _ _⟩
          have ea : ((p - dg p q * 3 ^ q : Nat) : Int) + (3 ^ q : Nat) = (p - dg p q * 3 ^ q + 1 * 3 ^ q : Nat) := by omega
          rw [sg_21_135, if_neg (by decide), if_neg (by rw [jI_le (by omega) (by omega) (by omega) (by omega)]; omega), jI_add, jI_add, ea]
          refine (sp_23 (m := m + 1) (by omega) hm1 (by omega) (by rw [jrow_same]; exact hr1.1) (by rw [jrow_same]; exact hr1.2)).trans ?_
          rw [jrow_same, jrow_jrow]
          simp only [zk_l, zk_r, Option.toList_some, Option.toList_none, List.cons_append, List.nil_append, zrokB, zrokB0, zrokB1, zrokJ0, zrokJ1, and_true, true_and, and_self, if_true, if_false, b2_0, b2_1, b2_not, ite_self]
        · refine ⟨N0, fun Q => ?_, fun i => Int.le_refl _, s0, fun _ h => absurd h hm1⟩
          rw [sg_21_135, if_neg (by decide), if_pos (by rw [jI_le (by omega) (by omega) (by omega) (by omega)]; omega)]
    obtain ⟨N1, r1, l1, s1, c1⟩ := two
    have three : ∃ N2, (∀ Q : zO → zI → Prop, wz W 21 161 [.ref 348, .int (jI q), .int (jI (3 ^ q : Nat)), .int (b2 (A k)), .int (b2 (B k)), .int (jI p), .int x6, .int x7, .int (b2 ff), .int (b2 sf), .int (jI (p - dg p q * 3 ^ q : Nat)), .int (jI m), .int (jI v)] [] (jm (jrow J 350 N1)) Q = wz W 21 182 [.ref 348, .int (jI q), .int (jI (3 ^ q : Nat)), .int (b2 (A k)), .int (b2 (B k)), .int (jI p), .int x6, .int x7, .int (b2 ff), .int (b2 sf), .int (jI (p - dg p q * 3 ^ q : Nat)), .int (jI m), .int (jI v)] [] (jm (jrow J 350 N2)) Q) ∧ (∀ i, N1 i ≤ N2 i) ∧ sdN (pX A B true w (k + 1)) 13 N2 ∧ (sf = true → (v : Int) + 1 ≤ N2 (13 * (p - dg p q * 3 ^ q + 2 * 3 ^ q) + m : Nat)) := by
      cases sf with
      | false =>
        refine ⟨N1, fun Q => ?_, fun i => Int.le_refl _, s1, fun h => by cases h⟩
        rw [sg_21_161, if_pos (by decide)]
      | true =>
        have hc2 := pX_cell' h1 h4 hP (f2.mpr rfl)
        rw [hq] at hc2
        simp only [show ¬ (2 = 1) from by decide, if_true, if_false, Nat.add_zero] at hc2
        have hr1 := b100 N1 s1 (p - dg p q * 3 ^ q + 2 * 3 ^ q) m (by omega) hm
        refine ⟨rse N1 (13 * (p - dg p q * 3 ^ q + 2 * 3 ^ q) + m : Nat) (v + 1 : Nat), fun Q => ?_, rse_le _ _ _, rse_sd (Or.inl rfl) s1 hm hc2, fun _ => ?_⟩
        · have ea : ((p - dg p q * 3 ^ q : Nat) : Int) + 2 * (3 ^ q : Nat) = (p - dg p q * 3 ^ q + 2 * 3 ^ q : Nat) := by omega
          rw [sg_21_161, if_neg (by decide), jI_mul, jI_add, jI_add, ea]
          refine (sp_23 (v := v + 1) (by omega) hm (by omega) (by rw [jrow_same]; exact hr1.1) (by rw [jrow_same]; exact hr1.2)).trans ?_
          rw [jrow_same, jrow_jrow]
          simp only [zk_l, zk_r, Option.toList_some, Option.toList_none, List.cons_append, List.nil_append, zrokB, zrokB0, zrokB1, zrokJ0, zrokJ1, and_true, true_and, and_self, if_true, if_false, b2_0, b2_1, b2_not, ite_self]
        · have := rse_at N1 (13 * (p - dg p q * 3 ^ q + 2 * 3 ^ q) + m : Nat) (v + 1 : Nat)
          omega
    obtain ⟨N2, r2, l2, s2, c2⟩ := three
    refine ⟨N2, .int (jI v), fun Q => ?_, fun i => Int.le_trans (rse_le _ _ _ _) (Int.le_trans (l1 i) (l2 i)), s2, fun _ x hx hxm => ?_⟩
    · rw [head, run0, r1, r2, sg_21_182, jI_add]
      rfl
    · rw [hv]
      obtain rfl | rfl | rfl : x = 0 ∨ x = 1 ∨ x = 2 := by have := hx.1; omega
      · simp only [show ¬ (0 = 1) from by decide, show ¬ (0 = 2) from by decide, if_false, Nat.zero_mul, Nat.add_zero, Int.add_zero]
        exact Int.le_trans (rse_at N _ v) (Int.le_trans (l1 _) (l2 _))
      · simp only [show ¬ (1 = 2) from by decide, if_true, if_false, Int.add_zero] at hxm ⊢
        exact Int.le_trans (c1 (f1.mp hx) hxm) (l2 _)
      · simp only [show ¬ (2 = 1) from by decide, if_true, if_false, Nat.add_zero] at hxm ⊢
        exact c2 (f2.mp hx)
/-- one edge -/
theorem sp_21e {k q p : Nat} (h1 : 1 ≤ w) (h4 : w ≤ 4) (hk : k < 24) (hq : k % w = q) (hp : p < 81) {T : Int → Int} (hJ : J 352 = T) (hT : sdN (pX A B true w k) 13 T) (x6 x7 : Int32) : ∀ (n : Nat), n ≤ 13 → ∀ (N : Int → Int), sdN (pX A B true w (k + 1)) 13 N → ∀ x12 : Value,
    ∃ N' y12, (∀ Q : zO → zI → Prop, wz W 21 95 [.ref 348, .int (jI q), .int (jI (3 ^ q : Nat)), .int (b2 (A k)), .int (b2 (B k)), .int (jI p), .int x6, .int x7, .int (b2 (A k && decide (dg p q ≠ 2) && decide (q = 0 ∨ dg p (q - 1) ≠ 2))), .int (b2 (B k && decide (dg p q ≠ 1) && decide (q = 0 ∨ dg p (q - 1) ≠ 1))), .int (jI (p - dg p q * 3 ^ q : Nat)), .int (jI (13 - n : Nat)), x12] [] (jm (jrow J 350 N)) Q = wz W 21 95 [.ref 348, .int (jI q), .int (jI (3 ^ q : Nat)), .int (b2 (A k)), .int (b2 (B k)), .int (jI p), .int x6, .int x7, .int (b2 (A k && decide (dg p q ≠ 2) && decide (q = 0 ∨ dg p (q - 1) ≠ 2))), .int (b2 (B k && decide (dg p q ≠ 1) && decide (q = 0 ∨ dg p (q - 1) ≠ 1))), .int (jI (p - dg p q * 3 ^ q : Nat)), .int (jI 13), y12] [] (jm (jrow J 350 N')) Q) ∧ (∀ i, N i ≤ N' i) ∧ sdN (pX A B true w (k + 1)) 13 N' ∧ ∀ m, 13 - n ≤ m → m < 13 → (T (13 * p + m : Nat) ≠ -1 → ∀ v, ftC A B true w k p v → m + (if v = 1 then 1 else 0) < 13 → T (13 * p + m : Nat) + (if v = 2 then 1 else 0) ≤ N' (13 * (p - dg p q * 3 ^ q + v * 3 ^ q) + (m + (if v = 1 then 1 else 0)) : Nat)) := by
  intro n
  induction n with
  | zero =>
    intro _ N hN x12
    exact ⟨N, x12, fun Q => rfl, fun i => Int.le_refl _, hN, fun m h1 h2 => by omega⟩
  | succ n ih =>
    intro hn N hN x12
    obtain ⟨N1, y1, r1, l1, s1, c1⟩ := sp_21b (W := W) h1 h4 hk hq hp (m := 13 - (n + 1)) (by omega) hJ hT hN x12 x6 x7
    obtain ⟨N2, y2, r2, l2, s2, c2⟩ := ih (by omega) N1 s1 y1
    refine ⟨N2, y2, fun Q => ?_, fun i => Int.le_trans (l1 i) (l2 i), s2, fun m m0 m1 => ?_⟩
    · rw [r1, show 13 - (n + 1) + 1 = 13 - n by omega, r2]
    · by_cases e : m = 13 - (n + 1)
      · intro hne v hv hvm
        rw [e] at hne hvm ⊢
        exact Int.le_trans (c1 hne v hv hvm) (l2 _)
      · exact c2 m (by omega) m1
/-- a cell -/
theorem sp_21 {k q : Nat} (h1 : 1 ≤ w) (h4 : w ≤ 4) (hk : k < 24) (hq : k % w = q) {T : Int → Int} (hJ : J 352 = T) (hT : rep (pX A B true w k) 13 T) {N : Int → Int} (hJN : J 350 = N) (hN : ∀ i : Int, 0 ≤ i → i < 1053 → N i = -1) :
    ∃ N', (∀ Q : zO → zI → Prop, wz W 21 0 [.ref 348, .int (jI q), .int (jI (3 ^ q : Nat)), .int (b2 (A k)), .int (b2 (B k)), .float 0, .float 0, .float 0, .float 0, .float 0, .float 0, .float 0, .float 0] [] (jm J) Q = Q oV (jm (jrow J 350 N'))) ∧ rep (pX A B true w (k + 1)) 13 N' := by
  have hq4 : q < 4 := by rw [← hq]; exact Nat.lt_of_lt_of_le (Nat.mod_lt k (by omega)) h4
  have hpw : 3 ^ q ≤ 27 := by
    obtain rfl | rfl | rfl | rfl : q = 0 ∨ q = 1 ∨ q = 2 ∨ q = 3 := by omega
    all_goals decide
  have hsd : sdN (pX A B true w (k + 1)) 13 N := by
    intro p m hp hm
    rw [hN _ (by omega) (by omega)]
    exact ⟨by decide, fun h => absurd rfl h⟩
  have key : ∀ n : Nat, n ≤ 81 → ∀ (N : Int → Int), sdN (pX A B true w (k + 1)) 13 N → ∀ x6 x7 x8 x9 x10 x11 x12 : Value, ∃ N', (∀ Q : zO → zI → Prop, wz W 21 3 [.ref 348, .int (jI q), .int (jI (3 ^ q : Nat)), .int (b2 (A k)), .int (b2 (B k)), .int (jI (81 - n : Nat)), x6, x7, x8, x9, x10, x11, x12] [] (jm (jrow J 350 N)) Q = Q oV (jm (jrow J 350 N'))) ∧ (∀ i, N i ≤ N' i) ∧ sdN (pX A B true w (k + 1)) 13 N' ∧ ∀ p m, 81 - n ≤ p → p < 81 → m < 13 → (T (13 * p + m : Nat) ≠ -1 → ∀ v, ftC A B true w k p v → m + (if v = 1 then 1 else 0) < 13 → T (13 * p + m : Nat) + (if v = 2 then 1 else 0) ≤ N' (13 * (p - dg p q * 3 ^ q + v * 3 ^ q) + (m + (if v = 1 then 1 else 0)) : Nat)) := by
    intro n
    induction n with
    | zero =>
      intro _ N hN x6 x7 x8 x9 x10 x11 x12
      refine ⟨N, fun Q => ?_, fun i => Int.le_refl _, hN, fun p m h1 h2 _ => by omega⟩
      rw [sg_21_3, if_pos (by decide)]
    | succ n ih =>
      intro hn N hN x6 x7 x8 x9 x10 x11 x12
      have hp : 81 - (n + 1) < 81 := by omega
      have hl : 81 - n = 81 - (n + 1) + 1 := by omega
      rw [hl] at ih
      generalize 81 - (n + 1) = p at *
      have hl0 : ((if q = 0 then 0 else dg p (q - 1) : Nat) : Int) ≤ 2 := by
        have := dg_le p (q - 1)
        split <;> omega
      obtain ⟨N1, y1, r1, l1, s1, c1⟩ := sp_21e (W := W) h1 h4 hk hq hp hJ hT.1 (jI (dg p q)) (jI (if q = 0 then 0 else dg p (q - 1) : Nat)) 13 (Nat.le_refl _) N hN x12
      obtain ⟨N2, r2, l2, s2, c2⟩ := ih (by omega) N1 s1 (.int (jI (dg p q))) (.int (jI (if q = 0 then 0 else dg p (q - 1) : Nat))) (.int (b2 (A k && decide (dg p q ≠ 2) && decide (q = 0 ∨ dg p (q - 1) ≠ 2)))) (.int (b2 (B k && decide (dg p q ≠ 1) && decide (q = 0 ∨ dg p (q - 1) ≠ 1)))) (.int (jI (p - dg p q * 3 ^ q : Nat))) (.int (jI 13)) y1
      refine ⟨N2, fun Q => ?_, fun i => Int.le_trans (l1 i) (l2 i), s2, fun p' m' m0 m1 m2 => ?_⟩
      · have hdl := dg_le p q
        have hds := (dg_set (p := p) (q := q) (v := 0) hp hq4 (by decide)).2.1
        -- the left one
        have left : wz W 21 3 [.ref 348, .int (jI q), .int (jI (3 ^ q : Nat)), .int (b2 (A k)), .int (b2 (B k)), .int (jI p), x6, x7, x8, x9, x10, x11, x12] [] (jm (jrow J 350 N)) Q = wz W 21 34 [.ref 348, .int (jI q), .int (jI (3 ^ q : Nat)), .int (b2 (A k)), .int (b2 (B k)), .int (jI p), .int (jI (dg p q)), x7, x8, x9, x10, x11, x12] [.int (jI (if q = 0 then 0 else dg p (q - 1) : Nat))] (jm (jrow J 350 N)) Q := by
          rw [sg_21_3, if_neg (by rw [jI_le (by omega) (by omega) (by omega) (by omega)]; omega), sp_22 hp hq4]
          simp only [zk_l, zk_r, Option.toList_some, Option.toList_none, List.cons_append, List.nil_append, zrokB, zrokB0, zrokB1, zrokJ0, zrokJ1, and_true, true_and, and_self, if_true, if_false, b2_0, b2_1, b2_not, ite_self]
          rw [sg_21_16]
          by_cases c : q = 0
          · rw [if_pos (by rw [c]; decide), if_pos c]
            rfl
          · rw [if_neg (by rw [jI_le0 (by omega) (by omega)]; omega), if_neg c, jI_sub, show (q : Int) - 1 = (q - 1 : Nat) by omega, sp_22 hp (by omega)]
            simp only [zk_l, zk_r, Option.toList_some, Option.toList_none, List.cons_append, List.nil_append, zrokB, zrokB0, zrokB1, zrokJ0, zrokJ1, and_true, true_and, and_self, if_true, if_false, b2_0, b2_1, b2_not, ite_self]
            rw [sg_21_30]
        generalize hlf : (if q = 0 then 0 else dg p (q - 1) : Nat) = lf at *
        have el2 : (decide (q = 0 ∨ dg p (q - 1) ≠ 2)) = decide (lf ≠ 2) := by
          rw [decide_eq_decide, ← hlf]
          by_cases c : q = 0
          · rw [if_pos c]; omega
          · rw [if_neg c]; omega
        have el1 : (decide (q = 0 ∨ dg p (q - 1) ≠ 1)) = decide (lf ≠ 1) := by
          rw [decide_eq_decide, ← hlf]
          by_cases c : q = 0
          · rw [if_pos c]; omega
          · rw [if_neg c]; omega
        have hff : wz W 21 34 [.ref 348, .int (jI q), .int (jI (3 ^ q : Nat)), .int (b2 (A k)), .int (b2 (B k)), .int (jI p), .int (jI (dg p q)), x7, x8, x9, x10, x11, x12] [.int (jI lf)] (jm (jrow J 350 N)) Q = wz W 21 57 [.ref 348, .int (jI q), .int (jI (3 ^ q : Nat)), .int (b2 (A k)), .int (b2 (B k)), .int (jI p), .int (jI (dg p q)), .int (jI lf), x8, x9, x10, x11, x12] [.int (b2 (A k && decide (dg p q ≠ 2) && decide (q = 0 ∨ dg p (q - 1) ≠ 2)))] (jm (jrow J 350 N)) Q := by
          rw [el2, sg_21_34]
          cases A k
          · rw [if_pos (by decide), sg_21_56]
            rfl
          · rw [if_neg (by decide)]
            by_cases c1 : dg p q = 2
            · rw [if_pos (by rw [c1]; rfl), sg_21_56, decide_eq_false (by omega)]
              rfl
            · rw [if_neg (by rw [jI_eq (by omega) (by omega) (by omega) (by omega)]; omega), decide_eq_true c1]
              by_cases c2 : lf = 2
              · rw [if_pos (by rw [c2]; rfl), sg_21_56, decide_eq_false (by omega)]
                rfl
              · rw [if_neg (by rw [jI_eq (by omega) (by omega) (by omega) (by omega)]; omega), decide_eq_true c2]
                rfl
        have hsf : ∀ ff : Int32, wz W 21 57 [.ref 348, .int (jI q), .int (jI (3 ^ q : Nat)), .int (b2 (A k)), .int (b2 (B k)), .int (jI p), .int (jI (dg p q)), .int (jI lf), x8, x9, x10, x11, x12] [.int ff] (jm (jrow J 350 N)) Q = wz W 21 81 [.ref 348, .int (jI q), .int (jI (3 ^ q : Nat)), .int (b2 (A k)), .int (b2 (B k)), .int (jI p), .int (jI (dg p q)), .int (jI lf), .int ff, x9, x10, x11, x12] [.int (b2 (B k && decide (dg p q ≠ 1) && decide (q = 0 ∨ dg p (q - 1) ≠ 1)))] (jm (jrow J 350 N)) Q := by
          intro ff
          rw [el1, sg_21_57]
          cases B k
          · rw [if_pos (by decide), sg_21_80]
            rfl
          · rw [if_neg (by decide)]
            by_cases c1 : dg p q = 1
            · rw [if_pos (by rw [c1]; rfl), sg_21_80, decide_eq_false (by omega)]
              rfl
            · rw [if_neg (by rw [jI_eq (by omega) (by omega) (by omega) (by omega)]; omega), decide_eq_true c1]
              by_cases c2 : lf = 1
              · rw [if_pos (by rw [c2]; rfl), sg_21_80, decide_eq_false (by omega)]
                rfl
              · rw [if_neg (by rw [jI_eq (by omega) (by omega) (by omega) (by omega)]; omega), decide_eq_true c2]
                rfl
        have ea : ((p : Int) - (dg p q : Nat) * (3 ^ q : Nat)) = (p - dg p q * 3 ^ q : Nat) := by
          rw [← Int.natCast_mul]
          omega
        rw [left, hff, hsf, sg_21_81, jI_mul, jI_sub, ea]
        refine (r1 Q).trans ?_
        rw [sg_21_95, if_pos (by decide), jI_add]
        exact r2 Q
      · by_cases e : p' = p
        · intro hne v hv hvm
          rw [e] at hne hv ⊢
          exact Int.le_trans (c1 m' (by omega) m2 hne v hv hvm) (l2 _)
        · exact c2 p' m' (by omega) m1 m2
  obtain ⟨N', r, l, s, c⟩ := key 81 (Nat.le_refl _) N hsd (.float 0) (.float 0) (.float 0) (.float 0) (.float 0) (.float 0) (.float 0)
  refine ⟨N', fun Q => ?_, s, fun p' m' s' hp' hm' hX => ?_⟩
  · rw [sg_21_0]
    have := r Q
    rw [← hJN, jrow_id] at this
    exact this
  · obtain ⟨p, m, s0, v, x1, x2, x3, x4, x5⟩ := pX_cell h1 h4 hX
    have hp := pX_lt x1
    have hle := hT.2 p m s0 hp (by omega) x1
    have := c p m (by omega) hp (by omega) (by omega) v x2 (by omega)
    rw [hq] at x3
    rw [x3, x4]
    rw [x5]
    by_cases hv : v = 2
    · rw [if_pos hv] at this ⊢; omega
    · rw [if_neg hv] at this ⊢; omega
end
