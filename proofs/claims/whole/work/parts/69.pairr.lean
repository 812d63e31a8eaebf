/-! ===== the reference's counting of pairs ===== -/
theorem za_361 : zArr 361 2025 := h_361
theorem za_362 : zArr 362 2025 := h_362
theorem hm_cnt (p v : Nat) : cntB (fun k => decide (dg p k = v)) 4 = hmy p v := by
  unfold hmy
  rw [show (4 : Nat) = ((0 + 1) + 1 + 1) + 1 from rfl, cnt_step, cnt_step, cnt_step, cnt_step]
  show 0 + _ + _ + _ + _ = _
  simp only [decide_eq_true_eq, Nat.zero_add]
theorem hm_le (p v : Nat) : hmy p v ≤ 4 := by
  rw [← hm_cnt]
  exact cntB_le _ 4
/-- can the row be so -/
def rwB (A B : Nat → Bool) (bad : Bool) (w b p : Nat) : Nat → Bool
  | 0 => true
  | k + 1 => rwB A B bad w b p k && (decide (dg p k = 0) || (decide (k < w) && (if dg p k = 1 then A (b + k) else B (b + k)))) && (!bad || decide (k = 0) || decide (dg p k + dg p (k - 1) ≠ 3))
theorem rwB_iff {A B : Nat → Bool} {bad : Bool} {w b p : Nat} (hp : p < 81) : rwB A B bad w b p 4 = true ↔ rwO A B bad w b p := by
  have key : ∀ n : Nat, rwB A B bad w b p n = true ↔ ∀ c, c < n → (dg p c = 0 ∨ (c < w ∧ (dg p c = 1 → A (b + c) = true) ∧ (dg p c = 2 → B (b + c) = true))) ∧ (bad = true → c = 0 ∨ dg p c + dg p (c - 1) ≠ 3) := by
    intro n
    induction n with
    | zero => exact ⟨fun _ c hc => by omega, fun _ => rfl⟩
    | succ n ih =>
      have hd := dg_le p n
      have e : rwB A B bad w b p (n + 1) = (rwB A B bad w b p n && (decide (dg p n = 0) || (decide (n < w) && (if dg p n = 1 then A (b + n) else B (b + n)))) && (!bad || decide (n = 0) || decide (dg p n + dg p (n - 1) ≠ 3))) := rfl
      rw [e, Bool.and_eq_true, Bool.and_eq_true, ih]
      have h1 : (decide (dg p n = 0) || (decide (n < w) && (if dg p n = 1 then A (b + n) else B (b + n)))) = true ↔ (dg p n = 0 ∨ (n < w ∧ (dg p n = 1 → A (b + n) = true) ∧ (dg p n = 2 → B (b + n) = true))) := by
        rw [Bool.or_eq_true, decide_eq_true_eq, Bool.and_eq_true, decide_eq_true_eq]
        by_cases c1 : dg p n = 1
        · rw [if_pos c1]
          constructor
          · rintro (h | ⟨h, h2⟩)
            · exact Or.inl h
            · exact Or.inr ⟨h, fun _ => h2, fun h => by omega⟩
          · rintro (h | ⟨h, h2, -⟩)
            · exact Or.inl h
            · exact Or.inr ⟨h, h2 c1⟩
        · rw [if_neg c1]
          constructor
          · rintro (h | ⟨h, h2⟩)
            · exact Or.inl h
            · exact Or.inr ⟨h, fun h => absurd h c1, fun _ => h2⟩
          · rintro (h | ⟨h, -, h2⟩)
            · exact Or.inl h
            · by_cases c0 : dg p n = 0
              · exact Or.inl c0
              · exact Or.inr ⟨h, h2 (by omega)⟩
      have h2 : (!bad || decide (n = 0) || decide (dg p n + dg p (n - 1) ≠ 3)) = true ↔ (bad = true → n = 0 ∨ dg p n + dg p (n - 1) ≠ 3) := by
        rw [Bool.or_eq_true, Bool.or_eq_true, decide_eq_true_eq, decide_eq_true_eq]
        cases bad <;> simp
      rw [h1, h2]
      constructor
      · rintro ⟨⟨x1, x2⟩, x3⟩ c hc
        by_cases ec : c = n
        · rw [ec]; exact ⟨x2, x3⟩
        · exact x1 c (by omega)
      · intro h
        exact ⟨⟨fun c hc => h c (by omega), (h n (by omega)).1⟩, (h n (by omega)).2⟩
  rw [key 4]
  exact ⟨fun h => ⟨hp, h⟩, fun h => h.2⟩
def bsB (bad : Bool) (p q : Nat) : Nat → Bool
  | 0 => true
  | k + 1 => bsB bad p q k && (!bad || decide (dg p k + dg q k ≠ 3))
theorem bsB_iff {bad : Bool} {p q : Nat} : bsB bad p q 4 = true ↔ bsO bad p q := by
  have key : ∀ n : Nat, bsB bad p q n = true ↔ (bad = true → ∀ c, c < n → dg p c + dg q c ≠ 3) := by
    intro n
    induction n with
    | zero => exact ⟨fun _ _ c hc => by omega, fun _ => rfl⟩
    | succ n ih =>
      have e : bsB bad p q (n + 1) = (bsB bad p q n && (!bad || decide (dg p n + dg q n ≠ 3))) := rfl
      rw [e, Bool.and_eq_true, ih, Bool.or_eq_true, decide_eq_true_eq]
      cases bad
      · simp
      · simp only [Bool.not_true, Bool.false_eq_true, false_or, forall_const]
        constructor
        · rintro ⟨x1, x2⟩ c hc
          by_cases ec : c = n
          · rw [ec]; exact x2
          · exact x1 c (by omega)
        · intro h
          exact ⟨fun c hc => h c (by omega), h n (by omega)⟩
  exact key 4
section
variable {W : zW} {J : zJ} {Q : zO → zI → Prop}
theorem sp_308 {p v : Nat} (hp : p < 81) (hv : v < 3) : wz W 308 0 [.int (jI p), .int (jI v), .float 0, .float 0] [] (jm J) Q = Q (oI (hmy p v)) (jm J) := by
  have key := zloop (f := fun i => wz W 308 4 [.int (jI p), .int (jI v), .int (jI (cntB (fun k => decide (dg p k = v)) i)), .int (jI i)] [] (jm J) Q) 4 (fun i hi => by
    try simp only
    have hd := dg_le p i
    rw [sg_308_4, if_neg (by rw [jI_le (by omega) (by omega) (by omega) (by omega)]; omega), sp_307 hp hi]
    simp only [zk_l, zk_r, Option.toList_some, Option.toList_none, List.cons_append, List.nil_append, zrokB, zrokB0, zrokB1, zrokJ0, zrokJ1, and_true, true_and, and_self, if_true, if_false, b2_0, b2_1, b2_not, ite_self]
    rw [sg_308_15, cnt_step]
    by_cases c : dg p i = v
    · rw [if_pos (by rw [c]), sg_308_24, if_pos (decide_eq_true c), jI_add, jI_add]
      rfl
    · rw [if_neg (by rw [jI_eq (by omega) (by omega) (by omega) (by omega)]; omega), sg_308_24, if_neg (by rw [decide_eq_false c]; decide), jI_add, jI_add]
      rfl)
  rw [sg_308_0]
  refine Eq.trans key ?_
  rw [hm_cnt, sg_308_4, if_pos (by decide)]
/-- isRow -/
theorem sp_309 {p r w n : Nat} {A' B' : Int → Bool} {bad : Bool} (hp : p < 81) (h1 : 1 ≤ w) (h4 : w ≤ 4) (hn : n ≤ 24) (hb : w * r + w ≤ n) (hr : r ≤ 6) : wz W 309 0 [.ref 353, .int (jI w), .int (jI r), .int (jI p), .int (mk n A'), .int (mk n B'), .int (b2 bad), .float 0, .float 0, .float 0] [] (jm J) Q = Q (oB (rwB (fun i => A' i) (fun i => B' i) bad w (w * r) p 4)) (jm J) := by
  have key : ∀ m : Nat, m ≤ 4 → ∀ x9 : Value, wz W 309 6 [.ref 353, .int (jI w), .int (jI r), .int (jI p), .int (mk n A'), .int (mk n B'), .int (b2 bad), .int (b2 (rwB (fun i => A' i) (fun i => B' i) bad w (w * r) p (4 - m))), .int (jI (4 - m : Nat)), x9] [] (jm J) Q = Q (oB (rwB (fun i => A' i) (fun i => B' i) bad w (w * r) p 4)) (jm J) := by
    intro m
    induction m with
    | zero =>
      intro _ x9
      rw [sg_309_6, if_pos (by decide)]
      simp only [zk_l, zk_r, Option.toList_some, Option.toList_none, List.cons_append, List.nil_append, zrokB, zrokB0, zrokB1, zrokJ0, zrokJ1, and_true, true_and, and_self, if_true, if_false, b2_0, b2_1, b2_not, ite_self]
    | succ m ih =>
      intro hm x9
      have hl : 4 - m = 4 - (m + 1) + 1 := by omega
      have hk : 4 - (m + 1) < 4 := by omega
      have ih := ih (by omega)
      rw [hl] at ih
      generalize 4 - (m + 1) = k at *
      have e : rwB (fun i => A' i) (fun i => B' i) bad w (w * r) p (k + 1) = (rwB (fun i => A' i) (fun i => B' i) bad w (w * r) p k && (decide (dg p k = 0) || (decide (k < w) && (if dg p k = 1 then A' (w * r + k : Nat) else B' (w * r + k : Nat)))) && (!bad || decide (k = 0) || decide (dg p k + dg p (k - 1) ≠ 3))) := rfl
      have hd := dg_le p k
      have hd2 := dg_le p (k - 1)
      rw [e] at ih
      generalize rwB (fun i => A' i) (fun i => B' i) bad w (w * r) p k = is at *
      -- after the first condition
      have fin : ∀ (v1 : Bool), ((is && (decide (dg p k = 0) || (decide (k < w) && (if dg p k = 1 then A' (w * r + k : Nat) else B' (w * r + k : Nat))))) = v1) → ∀ x7 : Int32, wz W 309 66 [.ref 353, .int (jI w), .int (jI r), .int (jI p), .int (mk n A'), .int (mk n B'), .int (b2 bad), .int x7, .int (jI k), .int (jI (dg p k))] [.int (b2 v1)] (jm J) Q = Q (oB (rwB (fun i => A' i) (fun i => B' i) bad w (w * r) p 4)) (jm J) := by
        intro v1 hv1 x7
        rw [hv1] at ih
        have yes : ∀ x7 : Int32, (v1 && (!bad || decide (k = 0) || decide (dg p k + dg p (k - 1) ≠ 3))) = true → wz W 309 109 [.ref 353, .int (jI w), .int (jI r), .int (jI p), .int (mk n A'), .int (mk n B'), .int (b2 bad), .int x7, .int (jI k), .int (jI (dg p k))] [] (jm J) Q = Q (oB (rwB (fun i => A' i) (fun i => B' i) bad w (w * r) p 4)) (jm J) := by
          intro x7 h
          rw [h] at ih
          rw [sg_309_109, sg_309_114, jI_add]
          exact ih _
        have no : ∀ x7 : Int32, (v1 && (!bad || decide (k = 0) || decide (dg p k + dg p (k - 1) ≠ 3))) = false → wz W 309 113 [.ref 353, .int (jI w), .int (jI r), .int (jI p), .int (mk n A'), .int (mk n B'), .int (b2 bad), .int x7, .int (jI k), .int (jI (dg p k))] [] (jm J) Q = Q (oB (rwB (fun i => A' i) (fun i => B' i) bad w (w * r) p 4)) (jm J) := by
          intro x7 h
          rw [h] at ih
          rw [sg_309_113, sg_309_114, jI_add]
          exact ih _
        rw [sg_309_66]
        cases v1 with
        | false => rw [if_pos (by decide)]; exact no _ (by rw [Bool.false_and])
        | true =>
          rw [if_neg (by decide)]
          cases bad with
          | false => rw [if_pos (by decide)]; exact yes _ rfl
          | true =>
            rw [if_neg (by decide)]
            by_cases c : k = 0
            · rw [if_pos (by rw [c]; rfl)]
              exact yes _ (by rw [decide_eq_true c]; rfl)
            · rw [if_neg (by rw [jI_eq0 (by omega) (by omega)]; omega), jI_sub, show (k : Int) - 1 = (k - 1 : Nat) by omega, sp_307 hp (by omega)]
              simp only [zk_l, zk_r, Option.toList_some, Option.toList_none, List.cons_append, List.nil_append, zrokB, zrokB0, zrokB1, zrokJ0, zrokJ1, and_true, true_and, and_self, if_true, if_false, b2_0, b2_1, b2_not, ite_self]
              rw [sg_309_93, jI_add]
              by_cases c2 : dg p k + dg p (k - 1) = 3
              · rw [if_pos (by rw [show ((dg p k : Nat) : Int) + (dg p (k - 1) : Nat) = 3 by omega]), if_neg (by rw [jI_eq0 (by omega) (by omega)]; omega), if_neg (by rw [jI_eq (by omega) (by omega) (by omega) (by omega)]; omega)]
                exact no _ (by rw [decide_eq_false c, decide_eq_false (by omega)]; rfl)
              · rw [if_neg (by rw [jI_eq (by omega) (by omega) (by omega) (by omega)]; omega)]
                exact yes _ (by rw [decide_eq_true c2, Bool.or_true, Bool.and_self])
      rw [sg_309_6, if_neg (by rw [jI_le (by omega) (by omega) (by omega) (by omega)]; omega), sp_307 hp hk]
      simp only [zk_l, zk_r, Option.toList_some, Option.toList_none, List.cons_append, List.nil_append, zrokB, zrokB0, zrokB1, zrokJ0, zrokJ1, and_true, true_and, and_self, if_true, if_false, b2_0, b2_1, b2_not, ite_self]
      rw [sg_309_18]
      cases is with
      | false => rw [if_pos (by decide), sg_309_65]; exact fin false (by rw [Bool.false_and]) _
      | true =>
        rw [if_neg (by decide)]
        by_cases c0 : dg p k = 0
        · rw [if_pos (by rw [c0]; rfl), sg_309_61]
          exact fin true (by rw [decide_eq_true c0]; rfl) _
        · rw [if_neg (by rw [jI_eq0 (by omega) (by omega)]; omega)]
          by_cases cw : w ≤ k
          · rw [if_pos (by rw [jI_le (by omega) (by omega) (by omega) (by omega)]; omega), sg_309_65]
            exact fin false (by rw [decide_eq_false c0, decide_eq_false (by omega)]; rfl) _
          · rw [if_neg (by rw [jI_le (by omega) (by omega) (by omega) (by omega)]; omega)]
            have ei : ((w : Int) * r + k) = (w * r + k : Nat) := by rw [Int.natCast_add, Int.natCast_mul]
            have rest : ∀ (C : Int → Bool), (∀ v1 : Bool, C (w * r + k : Nat) = v1 → (true && (decide (dg p k = 0) || (decide (k < w) && (if dg p k = 1 then A' (w * r + k : Nat) else B' (w * r + k : Nat))))) = v1) → wz W 309 49 [.ref 353, .int (jI w), .int (jI r), .int (jI p), .int (mk n A'), .int (mk n B'), .int (b2 bad), .int (b2 true), .int (jI k), .int (jI (dg p k))] [.int (mk n C)] (jm J) Q = Q (oB (rwB (fun i => A' i) (fun i => B' i) bad w (w * r) p 4)) (jm J) := by
              intro C hC
              rw [sg_309_49, jI_mul, jI_add, ei, sp_177 (by omega) (by omega), mk_bt (by omega) C (by omega) (by omega)]
              simp only [zk_l, zk_r, Option.toList_some, Option.toList_none, List.cons_append, List.nil_append, zrokB, zrokB0, zrokB1, zrokJ0, zrokJ1, and_true, true_and, and_self, if_true, if_false, b2_0, b2_1, b2_not, ite_self]
              rw [sg_309_58]
              cases hv : C (w * r + k : Nat) with
              | false => rw [if_pos (by decide), sg_309_65]; exact fin false (hC false hv) _
              | true => rw [if_neg (by decide), sg_309_61]; exact fin true (hC true hv) _
            by_cases c1 : dg p k = 1
            · rw [if_pos (by rw [c1]; rfl)]
              exact rest A' (fun v1 h => by rw [decide_eq_false c0, decide_eq_true (by omega), if_pos c1, h]; rfl)
            · rw [if_neg (by rw [jI_eq (by omega) (by omega) (by omega) (by omega)]; omega)]
              exact rest B' (fun v1 h => by rw [decide_eq_false c0, decide_eq_true (by omega), if_neg c1, h]; rfl)
  rw [sg_309_0]
  exact key 4 (Nat.le_refl _) (.float 0)
theorem sp_310 {p q : Nat} {bad : Bool} (hp : p < 81) (hq : q < 81) : wz W 310 0 [.int (jI p), .int (jI q), .int (b2 bad), .float 0, .float 0] [] (jm J) Q = Q (oB (bsB bad p q 4)) (jm J) := by
  have key := zloop (f := fun k => wz W 310 5 [.int (jI p), .int (jI q), .int (b2 bad), .int (b2 (bsB bad p q k)), .int (jI k)] [] (jm J) Q) 4 (fun k hk => by
    try simp only
    have hd := dg_le p k
    have hd2 := dg_le q k
    have e : bsB bad p q (k + 1) = (bsB bad p q k && (!bad || decide (dg p k + dg q k ≠ 3))) := rfl
    rw [e, sg_310_5, if_neg (by rw [jI_le (by omega) (by omega) (by omega) (by omega)]; omega)]
    cases bsB bad p q k with
    | false => rw [if_pos (by decide), sg_310_40, sg_310_41, jI_add, Bool.false_and]; rfl
    | true =>
      rw [if_neg (by decide), Bool.true_and]
      cases bad with
      | false => rw [if_pos (by decide), sg_310_36, sg_310_41, jI_add]; rfl
      | true =>
        rw [if_neg (by decide), sp_307 hp hk]
        simp only [zk_l, zk_r, Option.toList_some, Option.toList_none, List.cons_append, List.nil_append, zrokB, zrokB0, zrokB1, zrokJ0, zrokJ1, and_true, true_and, and_self, if_true, if_false, b2_0, b2_1, b2_not, ite_self]
        rw [sg_310_25, sp_307 hq hk]
        simp only [zk_l, zk_r, Option.toList_some, Option.toList_none, List.cons_append, List.nil_append, zrokB, zrokB0, zrokB1, zrokJ0, zrokJ1, and_true, true_and, and_self, if_true, if_false, b2_0, b2_1, b2_not, ite_self]
        rw [sg_310_31, jI_add]
        by_cases c : dg p k + dg q k = 3
        · rw [if_pos (by rw [show ((dg p k : Nat) : Int) + (dg q k : Nat) = 3 by omega]), sg_310_40, sg_310_41, jI_add, decide_eq_false (by omega)]
          rfl
        · rw [if_neg (by rw [jI_eq (by omega) (by omega) (by omega) (by omega)]; omega), sg_310_36, sg_310_41, jI_add, decide_eq_true c]
          rfl)
  rw [sg_310_0]
  refine Eq.trans key ?_
  rw [sg_310_5, if_pos (by decide)]
  simp only [zk_l, zk_r, Option.toList_some, Option.toList_none, List.cons_append, List.nil_append, zrokB, zrokB0, zrokB1, zrokJ0, zrokJ1, and_true, true_and, and_self, if_true, if_false, b2_0, b2_1, b2_not, ite_self]
/-- addRow -/
theorem sp_311 {A B : Nat → Bool} {bad : Bool} {w b p q : Nat} (h1 : 1 ≤ w) (h4 : w ≤ 4) (hb : b % w = 0) (hbn : b + w ≤ 24) (hp : p < 81) (hq : q < 81) (hrw : rwO A B bad w b p) (hbs : bsO bad p q) {T N : Int → Int} (hJ : J 361 = T) (hT : sdN (pX A B bad w b) 25 T) (hN : sdN (pX A B bad w (b + w)) 25 N) (x1 x2 x5 : Int32) :
    ∃ N', (∀ Q : zO → zI → Prop, wz W 311 0 [.ref 353, .int x1, .int x2, .int (jI p), .int (jI q), .int x5, .float 0, .float 0, .float 0, .float 0] [] (jm (jrow J 362 N)) Q = Q oV (jm (jrow J 362 N'))) ∧ (∀ i, N i ≤ N' i) ∧ sdN (pX A B bad w (b + w)) 25 N' ∧ ∀ m : Nat, m + hmy p 1 < 25 → T (25 * q + m : Nat) ≠ -1 → T (25 * q + m : Nat) + hmy p 2 ≤ N' (25 * p + (m + hmy p 1) : Nat) := by
  have ho := hm_le p 1
  have ho2 := hm_le p 2
  have e61 : ∀ N, jrow J 362 N 361 = T := fun N => by rw [jrow_ne (by decide)]; exact hJ
  have b100 : ∀ N : Int → Int, sdN (pX A B bad w (b + w)) 25 N → ∀ i : Nat, ∀ j : Nat, i < 81 → j < 25 → -1 ≤ N (25 * i + j : Nat) ∧ N (25 * i + j : Nat) ≤ 100 := by
    intro N h i j hi hj
    obtain ⟨y1, y2⟩ := h i j hi hj
    refine ⟨y1, ?_⟩
    by_cases c : N (25 * i + j : Nat) = -1
    · omega
    · have := pX_bd (y2 c); omega
  have key : ∀ n : Nat, n + hmy p 1 ≤ 25 → ∀ (N : Int → Int), sdN (pX A B bad w (b + w)) 25 N → ∀ x8 x9 : Value, ∃ N', (∀ Q : zO → zI → Prop, wz W 311 10 [.ref 353, .int x1, .int x2, .int (jI p), .int (jI q), .int x5, .int (jI (hmy p 1)), .int (jI (25 - hmy p 1 - n : Nat)), x8, x9] [] (jm (jrow J 362 N)) Q = Q oV (jm (jrow J 362 N'))) ∧ (∀ i, N i ≤ N' i) ∧ sdN (pX A B bad w (b + w)) 25 N' ∧ ∀ m : Nat, 25 - hmy p 1 - n ≤ m → m + hmy p 1 < 25 → T (25 * q + m : Nat) ≠ -1 → T (25 * q + m : Nat) + hmy p 2 ≤ N' (25 * p + (m + hmy p 1) : Nat) := by
    intro n
    induction n with
    | zero =>
      intro _ N hN x8 x9
      refine ⟨N, fun Q => ?_, fun i => Int.le_refl _, hN, fun m m0 m1 => by omega⟩
      rw [sg_311_10, jI_add, if_pos (by rw [jI_le (by omega) (by omega) (by omega) (by omega)]; omega)]
    | succ n ih =>
      intro hn N hN x8 x9
      have ih := ih (by omega)
      have hl : 25 - hmy p 1 - n = 25 - hmy p 1 - (n + 1) + 1 := by omega
      have hlt : 25 - hmy p 1 - (n + 1) + hmy p 1 < 25 := by omega
      rw [hl] at ih
      generalize 25 - hmy p 1 - (n + 1) = m at *
      obtain ⟨t1, t2⟩ := hT q m hq (by omega)
      have ea : (25 : Int) * q + m = (25 * q + m : Nat) := by omega
      have eb : (25 : Int) * p + m + hmy p 1 = (25 * p + (m + hmy p 1) : Nat) := by omega
      by_cases c : T (25 * q + m : Nat) = -1
      · obtain ⟨N', r, l, s, cm⟩ := ih N hN (.int (jI (T (25 * q + m : Nat)))) (.int (jI (25 * p + (m + hmy p 1) : Nat)))
        refine ⟨N', fun Q => ?_, l, s, fun m' m0 m1 hne => ?_⟩
        · rw [sg_311_10, jI_add, if_neg (by rw [jI_le (by omega) (by omega) (by omega) (by omega)]; omega)]
          simp (disch := first | assumption | omega) only [e61, ea, eb, zk_l, zk_r, Option.toList_some, Option.toList_none, List.cons_append, List.nil_append, zrokB, zrokB0, zrokB1, zrokJ0, zrokJ1, and_true, true_and, and_self, if_true, if_false, b2_0, b2_1, b2_not, ite_self, Int.add_zero, jI_nat, jI_add, jI_sub, jI_mul, jI_neg, jI_lt, jI_le, jI_eq, jI_lt0, jI_0lt, jI_le0, jI_0le, jI_eq0, jI_in, jI_dv, i_mod, jI_cl, jm_n, jz_n, i_lit, i_c0, i_c1, Int.toNat_of_nonneg, Int.toNat_natCast, jrow_same, jrow_ne, jrow_jrow, sset_eq, sset_ne]
          rw [if_pos c, sg_311_78, jI_add]
          exact r Q
        · by_cases em : m' = m
          · rw [em] at hne; exact absurd c hne
          · exact cm m' (by omega) m1 hne
      · have hP := t2 c
        have hbd := pX_bd hP
        obtain ⟨v, hv⟩ : ∃ v : Nat, T (25 * q + m : Nat) = v := ⟨(T (25 * q + m : Nat)).toNat, by omega⟩
        rw [hv, Int.toNat_natCast] at hP hbd
        have hP' := pX_row' h1 h4 hb hP hrw hbs
        have hr0 := b100 N hN p (m + hmy p 1) hp hlt
        have s0 := rse_sd (Or.inr rfl) hN hlt hP'
        obtain ⟨N', r, l, s, cm⟩ := ih (rse N (25 * p + (m + hmy p 1) : Nat) (v + hmy p 2 : Nat)) s0 (.int (jI (T (25 * q + m : Nat)))) (.int (jI (25 * p + (m + hmy p 1) : Nat)))
        refine ⟨N', fun Q => ?_, fun i => Int.le_trans (rse_le _ _ _ _) (l i), s, fun m' m0 m1 hne => ?_⟩
        · rw [sg_311_10, jI_add, if_neg (by rw [jI_le (by omega) (by omega) (by omega) (by omega)]; omega)]
          simp (disch := first | assumption | omega) only [e61, ea, eb, zk_l, zk_r, Option.toList_some, Option.toList_none, List.cons_append, List.nil_append, zrokB, zrokB0, zrokB1, zrokJ0, zrokJ1, and_true, true_and, and_self, if_true, if_false, b2_0, b2_1, b2_not, ite_self, Int.add_zero, jI_nat, jI_add, jI_sub, jI_mul, jI_neg, jI_lt, jI_le, jI_eq, jI_lt0, jI_0lt, jI_le0, jI_0le, jI_eq0, jI_in, jI_dv, i_mod, jI_cl, jm_n, jz_n, i_lit, i_c0, i_c1, Int.toNat_of_nonneg, Int.toNat_natCast, jrow_same, jrow_ne, jrow_jrow, sset_eq, sset_ne]
          rw [if_neg c]
          refine (sp_308 (v := 2) hp (by decide)).trans ?_
          simp only [zk_l, zk_r, Option.toList_some, Option.toList_none, List.cons_append, List.nil_append, zrokB, zrokB0, zrokB1, zrokJ0, zrokJ1, and_true, true_and, and_self, if_true, if_false, b2_0, b2_1, b2_not, ite_self]
          rw [sg_311_73 (hqt0 := za_362)]
          rw [hv, jI_add, show ((v : Int) + (hmy p 2 : Nat)) = (v + hmy p 2 : Nat) by omega, jmax_j (by omega) (by omega) (by omega) (by omega)]
          simp (disch := first | assumption | omega) only [zk_l, zk_r, Option.toList_some, Option.toList_none, List.cons_append, List.nil_append, zrokB, zrokB0, zrokB1, zrokJ0, zrokJ1, and_true, true_and, and_self, if_true, if_false, b2_0, b2_1, b2_not, ite_self, Int.add_zero, jI_nat, jI_add, jI_sub, jI_mul, jI_neg, jI_lt, jI_le, jI_eq, jI_lt0, jI_0lt, jI_le0, jI_0le, jI_eq0, jI_in, jI_dv, i_mod, jI_cl, jm_n, jz_n, i_lit, i_c0, i_c1, Int.toNat_of_nonneg, Int.toNat_natCast, jrow_same, jrow_ne, jrow_jrow, sset_eq, sset_ne]
          rw [sg_311_78, jI_add]
          have := r Q
          rw [hv] at this
          exact this
        · by_cases em : m' = m
          · rw [em, hv]
            have := rse_at N (25 * p + (m + hmy p 1) : Nat) (v + hmy p 2 : Nat)
            have h9 := l (25 * p + (m + hmy p 1) : Nat)
            omega
          · exact cm m' (by omega) m1 hne
  obtain ⟨N', r, l, s, cm⟩ := key (25 - hmy p 1) (by omega) N hN (.float 0) (.float 0)
  refine ⟨N', fun Q => ?_, l, s, fun m m1 hne => cm m (by omega) m1 hne⟩
  rw [sg_311_0]
  refine (sp_308 (v := 1) hp (by decide)).trans ?_
  simp only [zk_l, zk_r, Option.toList_some, Option.toList_none, List.cons_append, List.nil_append, zrokB, zrokB0, zrokB1, zrokJ0, zrokJ1, and_true, true_and, and_self, if_true, if_false, b2_0, b2_1, b2_not, ite_self]
  rw [sg_311_5]
  have := r Q
  rw [Nat.sub_self] at this
  exact this
end
