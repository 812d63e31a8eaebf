/-! ===== append, truncate ===== -/
def byj (x : Int32) (j : Nat) : Int32 := (x >>> ((jI 24 - jI 8 * jI j) &&& 31)) &&& jI 255
theorem b_255j (i : Nat) : bt (jI 255) i = decide (i < 8) := b_255 i
theorem byj_u {x : Int32} {j : Nat} (hj : j < 4) : (jushr x (jI 24 - jI 8 * jI j)) &&& jI 255 = byj x j := by
  unfold byj
  rw [jI_mul, jI_sub]
  have e : (24 - 8 * (j : Int)) = ((24 - 8 * j : Nat) : Int) := by omega
  rw [e]
  refine b_ext (fun i hi => ?_)
  rw [b_and, b_and, b_255j, jI_n (by omega), b_sshr _ (by omega) x hi]
  unfold jushr
  rw [b_ushr _ (by omega)]
  by_cases h : i < 8
  · rw [if_pos (by omega)]
  · rw [decide_eq_false h, Bool.and_false, Bool.and_false]
theorem byj_bd (x : Int32) (j : Nat) : 0 ≤ (byj x j).toInt ∧ (byj x j).toInt ≤ 255 := by
  unfold byj
  generalize x >>> ((jI 24 - jI 8 * jI j) &&& 31) = y
  have h : (y &&& jI 255).toBitVec.toNat ≤ 255 := by
    rw [Int32.toBitVec_and, BitVec.toNat_and]
    exact Nat.and_le_right
  have e : (y &&& jI 255).toInt = ((y &&& jI 255).toBitVec.toNat : Int) := by
    show (y &&& jI 255).toBitVec.toInt = _
    rw [BitVec.toInt_eq_toNat_of_lt (by omega)]
  omega
theorem byj_0 (x : Int32) (j : Nat) : byj x j = 0 ↔ (byj x j).toInt = 0 := by
  constructor
  · intro h; rw [h]; rfl
  · intro h
    rw [← jI_of (byj x j), h]
    rfl
theorem cnt_mo (p : Nat → Bool) {a b : Nat} (h : a ≤ b) : cntB p a ≤ cntB p b := by
  obtain ⟨d, rfl⟩ : ∃ d, b = a + d := ⟨b - a, by omega⟩
  rw [cnt_sp]
  omega
def nzc (x : Int32) (n : Nat) : Nat := cntB (fun j => decide (byj x j ≠ 0)) n
/-- n bytes of x are appended -/
def apx (x : Int32) : Nat → (Int → Int) × Int → (Int → Int) × Int
  | 0, s => s
  | n + 1, s => if byj x n = 0 then apx x n s else (sset (apx x n s).1 (apx x n s).2 (byj x n).toInt, (apx x n s).2 + 1)
theorem apx_L (x : Int32) (s : (Int → Int) × Int) : ∀ n : Nat, (apx x n s).2 = s.2 + nzc x n := by
  intro n
  induction n with
  | zero => show s.2 = s.2 + ((0 : Nat) : Int); omega
  | succ n ih =>
    have e : nzc x (n + 1) = nzc x n + (if decide (byj x n ≠ 0) = true then 1 else 0) := cnt_step _ _
    unfold apx
    rw [e]
    by_cases c : byj x n = 0
    · rw [if_pos c, if_neg (by rw [decide_eq_false (fun h => h c)]; decide), ih]
      omega
    · rw [if_neg c, if_pos (decide_eq_true c)]
      show (apx x n s).2 + 1 = _
      rw [ih]
      omega
/-- the same on both sides -/
theorem apx_eq (x : Int32) {f g : Int → Int} {L : Int} (hL : 0 ≤ L) (h : ∀ i, 0 ≤ i → i < L → f i = g i) : ∀ n : Nat, ∀ i, 0 ≤ i → i < (apx x n (f, L)).2 → (apx x n (f, L)).1 i = (apx x n (g, L)).1 i := by
  intro n
  induction n with
  | zero => exact h
  | succ n ih =>
    have e1 := apx_L x (f, L) n
    have e2 := apx_L x (g, L) n
    simp only at e1 e2
    intro i i0 i1
    unfold apx at i1 ⊢
    by_cases c : byj x n = 0
    · rw [if_pos c] at i1 ⊢
      rw [if_pos c]
      exact ih i i0 i1
    · rw [if_neg c] at i1 ⊢
      rw [if_neg c]
      simp only at i1 ⊢
      rw [e1] at i1
      by_cases q : i = L + nzc x n
      · rw [sset_eq (by rw [e1]; exact q), sset_eq (by rw [e2]; exact q)]
      · rw [sset_ne (by rw [e1]; exact q), sset_ne (by rw [e2]; exact q)]
        exact ih i i0 (by rw [e1]; omega)
theorem apx_bd (x : Int32) {f : Int → Int} {L : Int} (hL : 0 ≤ L) (h : ∀ i, 0 ≤ i → i < L → 1 ≤ f i ∧ f i ≤ 255) : ∀ n : Nat, ∀ i, 0 ≤ i → i < (apx x n (f, L)).2 → 1 ≤ (apx x n (f, L)).1 i ∧ (apx x n (f, L)).1 i ≤ 255 := by
  intro n
  induction n with
  | zero => exact h
  | succ n ih =>
    have e1 := apx_L x (f, L) n
    simp only at e1
    intro i i0 i1
    unfold apx at i1 ⊢
    by_cases c : byj x n = 0
    · rw [if_pos c] at i1 ⊢
      exact ih i i0 i1
    · rw [if_neg c] at i1 ⊢
      simp only at i1 ⊢
      have hb := byj_bd x n
      have h0 := byj_0 x n
      by_cases q : i = (apx x n (f, L)).2
      · rw [sset_eq q]
        have : (byj x n).toInt ≠ 0 := fun h9 => c (h0.mpr h9)
        omega
      · rw [sset_ne q]
        exact ih i i0 (by omega)
section
variable {W : zW} {J : zJ} {Q : zO → zI → Prop}
theorem sp_159 {x : Int32} {j : Nat} (hj : j < 4) : wz W 159 0 [.int x, .int (jI j)] [] (jm J) Q = Q (.inl (some (.int (byj x j)))) (jm J) := by
  rw [sg_159_0, byj_u hj]
theorem nzc_le (x : Int32) (n : Nat) : nzc x n ≤ n := cntB_le _ n
theorem sp_160 (x : Int32) : wz W 160 0 [.int x, .float 0, .float 0] [] (jm J) Q = Q (oI (nzc x 4)) (jm J) := by
  have key := zloop (f := fun j => wz W 160 4 [.int x, .int (jI (nzc x j)), .int (jI j)] [] (jm J) Q) 4 (fun j hj => by
    try simp only
    rw [sg_160_4, if_neg (by rw [jI_le (by omega) (by omega) (by omega) (by omega)]; omega), sp_159 hj]
    simp only [zk_l, zk_r, Option.toList_some, Option.toList_none, List.cons_append, List.nil_append, zrokB, zrokB0, zrokB1, zrokJ0, zrokJ1, and_true, true_and, and_self, if_true, if_false, b2_0, b2_1, b2_not, ite_self]
    have e : nzc x (j + 1) = nzc x j + (if decide (byj x j ≠ 0) = true then 1 else 0) := cnt_step _ _
    rw [sg_160_14, e]
    by_cases c : byj x j = 0
    · rw [if_pos c, sg_160_20, jI_add, if_neg (by rw [decide_eq_false (fun h => h c)]; decide)]
      rfl
    · rw [if_neg c, sg_160_20, jI_add, jI_add, if_pos (decide_eq_true c)]
      rfl)
  rw [sg_160_0]
  refine Eq.trans key ?_
  rw [sg_160_4, if_pos (by decide)]
/-- the class's buffer -/
def cB (J : zJ) (s : (Int → Int) × Int) : zJ := jrow (jrow J 2 s.1) 0 (sset (J 0) 1 s.2)
theorem cB_2 {J : zJ} {s : (Int → Int) × Int} : cB J s 2 = s.1 := by unfold cB; rw [jrow_ne (by decide), jrow_same]
theorem cB_0 {J : zJ} {s : (Int → Int) × Int} : cB J s 0 = sset (J 0) 1 s.2 := jrow_same
theorem cB_ne {J : zJ} {s : (Int → Int) × Int} {q : Nat} (h0 : q ≠ 0) (h2 : q ≠ 2) : cB J s q = J q := by unfold cB; rw [jrow_ne h0, jrow_ne h2]
theorem zRow_1a : zRow 1 900 := by unfold zRow; decide +kernel
theorem sp_161 (x : Int32) {s : (Int → Int) × Int} (h0 : 0 ≤ s.2) (h1 : s.2 + nzc x 4 ≤ 900) : wz W 161 0 [.ref 0, .int x, .float 0, .float 0] [] (jm (cB J s)) Q = Q oV (jm (cB J (apx x 4 s))) := by
  have key : ∀ n : Nat, n ≤ 4 → ∀ x3 : Value, wz W 161 2 [.ref 0, .int x, .int (jI (4 - n : Nat)), x3] [] (jm (cB J (apx x (4 - n) s))) Q = Q oV (jm (cB J (apx x 4 s))) := by
    intro n
    induction n with
    | zero =>
      intro _ x3
      rw [sg_161_2, if_pos (by decide)]
    | succ n ih =>
      intro hn x3
      have ih := ih (by omega)
      have hl : 4 - n = 4 - (n + 1) + 1 := by omega
      have hj : 4 - (n + 1) < 4 := by omega
      rw [hl] at ih
      generalize 4 - (n + 1) = j at *
      have hL := apx_L x s j
      have e : apx x (j + 1) s = if byj x j = 0 then apx x j s else (sset (apx x j s).1 (apx x j s).2 (byj x j).toInt, (apx x j s).2 + 1) := rfl
      have hm : nzc x (j + 1) ≤ nzc x 4 := cnt_mo _ (by omega)
      have e2 : nzc x (j + 1) = nzc x j + (if decide (byj x j ≠ 0) = true then 1 else 0) := cnt_step _ _
      rw [sg_161_2, if_neg (by rw [jI_le (by omega) (by omega) (by omega) (by omega)]; omega), sp_159 hj]
      simp only [zk_l, zk_r, Option.toList_some, Option.toList_none, List.cons_append, List.nil_append, zrokB, zrokB0, zrokB1, zrokJ0, zrokJ1, and_true, true_and, and_self, if_true, if_false, b2_0, b2_1, b2_not, ite_self]
      rw [sg_161_12]
      by_cases c : byj x j = 0
      · rw [if_pos c] at e
        rw [if_pos c, sg_161_39, jI_add, ← e]
        exact ih _
      · rw [if_neg c] at e
        rw [if_pos (decide_eq_true c)] at e2
        have e3 : jm (cB J (apx x j s)) 0 1 = jI (apx x j s).2 := by
          show jI (cB J (apx x j s) 0 1) = _
          rw [cB_0, sset_eq rfl]
        have e4 : byj x j = jI (byj x j).toInt := (jI_of _).symm
        rw [if_neg c, e3]
        have h46 := sp_46 (W := W) (J := cB J (apx x j s)) (i := (apx x j s).2) (v := (byj x j).toInt) (Q := zk Q (fun v I1 => wz W 161 29 [.ref 0, .int x, .int (jI j), .int (byj x j)] (v.toList ++ []) I1 Q)) zRow_1a (by omega) (by omega) (by decide)
        rw [← e4] at h46
        refine h46.trans ?_
        simp only [zk_l, zk_r, Option.toList_some, Option.toList_none, List.cons_append, List.nil_append, zrokB, zrokB0, zrokB1, zrokJ0, zrokJ1, and_true, true_and, and_self, if_true, if_false, b2_0, b2_1, b2_not, ite_self]
        have e5 : jrow (cB J (apx x j s)) (1 + 1) (sset (cB J (apx x j s) (1 + 1)) (apx x j s).2 (byj x j).toInt) = cB J (sset (apx x j s).1 (apx x j s).2 (byj x j).toInt, (apx x j s).2) := by
          show jrow (cB J (apx x j s)) 2 (sset (cB J (apx x j s) 2) (apx x j s).2 (byj x j).toInt) = _
          rw [cB_2]
          unfold cB
          funext q
          by_cases d : q = 2
          · rw [d, jrow_same, jrow_ne (by decide), jrow_same]
          · rw [jrow_ne d]
            by_cases d2 : q = 0
            · rw [d2, jrow_same, jrow_same]
            · rw [jrow_ne d2, jrow_ne d2, jrow_ne d, jrow_ne d]
        rw [e5, sg_161_29]
        have e6 : zset (jm (cB J (sset (apx x j s).1 (apx x j s).2 (byj x j).toInt, (apx x j s).2))) 0 1 (jm (cB J (sset (apx x j s).1 (apx x j s).2 (byj x j).toInt, (apx x j s).2)) 0 1 + jI 1) = jm (cB J (apx x (j + 1) s)) := by
          have : jm (cB J (sset (apx x j s).1 (apx x j s).2 (byj x j).toInt, (apx x j s).2)) 0 1 + jI 1 = jI ((apx x j s).2 + 1) := by
            show jI (cB J _ 0 1) + jI 1 = _
            rw [cB_0, sset_eq rfl, jI_add]
          rw [this, e]
          have h9 := jz_n (J := cB J (sset (apx x j s).1 (apx x j s).2 (byj x j).toInt, (apx x j s).2)) (a := 0) (n := 1) (v := (apx x j s).2 + 1)
          refine Eq.trans h9 (congrArg jm ?_)
          rw [cB_0]
          unfold cB
          funext q
          by_cases d2 : q = 0
          · rw [d2, jrow_same, jrow_same]
            exact sset_ss
          · rw [jrow_ne d2, jrow_ne d2, jrow_ne d2]
        rw [e6, sg_161_39, jI_add]
        exact ih _
  rw [sg_161_0]
  have h := key 4 (Nat.le_refl _) (.float 0)
  rw [Nat.sub_self] at h
  exact h
/-- the five ints of a call -/
def tot (xs : Nat → Int32) : Nat → Nat
  | 0 => 0
  | i + 1 => tot xs i + nzc (xs i) 4
def apA (xs : Nat → Int32) : Nat → (Int → Int) × Int → (Int → Int) × Int
  | 0, s => s
  | i + 1, s => apx (xs i) 4 (apA xs i s)
theorem apA_L (xs : Nat → Int32) (s : (Int → Int) × Int) : ∀ n : Nat, (apA xs n s).2 = s.2 + tot xs n := by
  intro n
  induction n with
  | zero => show s.2 = s.2 + ((0 : Nat) : Int); omega
  | succ n ih =>
    have e : tot xs (n + 1) = tot xs n + nzc (xs n) 4 := rfl
    unfold apA
    rw [apx_L, ih, e]
    omega
theorem apA_eq (xs : Nat → Int32) {f g : Int → Int} {L : Int} (hL : 0 ≤ L) (h : ∀ i, 0 ≤ i → i < L → f i = g i) : ∀ n : Nat, ∀ i, 0 ≤ i → i < (apA xs n (f, L)).2 → (apA xs n (f, L)).1 i = (apA xs n (g, L)).1 i := by
  intro n
  induction n with
  | zero => exact h
  | succ n ih =>
    have e1 := apA_L xs (f, L) n
    have e2 := apA_L xs (g, L) n
    simp only at e1 e2
    intro i i0 i1
    unfold apA at i1 ⊢
    have key := apx_eq (xs n) (f := (apA xs n (f, L)).1) (g := (apA xs n (g, L)).1) (L := (apA xs n (f, L)).2) (by rw [e1]; omega) ih 4 i i0
    have h1 : ((apA xs n (f, L)).1, (apA xs n (f, L)).2) = apA xs n (f, L) := rfl
    have h2 : ((apA xs n (g, L)).1, (apA xs n (f, L)).2) = apA xs n (g, L) := by rw [e1, ← e2]
    rw [h1, h2] at key
    exact key i1
theorem apA_bd (xs : Nat → Int32) {f : Int → Int} {L : Int} (hL : 0 ≤ L) (h : ∀ i, 0 ≤ i → i < L → 1 ≤ f i ∧ f i ≤ 255) : ∀ n : Nat, ∀ i, 0 ≤ i → i < (apA xs n (f, L)).2 → 1 ≤ (apA xs n (f, L)).1 i ∧ (apA xs n (f, L)).1 i ≤ 255 := by
  intro n
  induction n with
  | zero => exact h
  | succ n ih =>
    have e1 := apA_L xs (f, L) n
    simp only at e1
    unfold apA
    exact apx_bd (xs n) (f := (apA xs n (f, L)).1) (L := (apA xs n (f, L)).2) (by rw [e1]; omega) ih 4
theorem sp_179 (xs : Nat → Int32) {i j : Nat} (hi : i < 5) (hj : j < 4) : wz W 179 0 [.int (xs 0), .int (xs 1), .int (xs 2), .int (xs 3), .int (xs 4), .int (jI (4 * i + j : Nat)), .float 0] [] (jm J) Q = Q (.inl (some (.int (byj (xs i) j)))) (jm J) := by
  have e : jI 24 - jI 8 * (jI (4 * i + j : Nat) - jI (4 * i + j : Nat) / jI 4 * jI 4) = jI 24 - jI 8 * jI j := by
    simp (disch := first | assumption | omega) only [Int.add_zero, jI_nat, jI_add, jI_sub, jI_mul, jI_neg, jI_lt, jI_le, jI_eq, jI_lt0, jI_0lt, jI_le0, jI_0le, jI_eq0, jI_in, jI_dv, i_mod]
    congr 1
    omega
  have last : ∀ x : Int32, wz W 179 45 [.int (xs 0), .int (xs 1), .int (xs 2), .int (xs 3), .int (xs 4), .int (jI (4 * i + j : Nat)), .float 0] [.int x] (jm J) Q = Q (.inl (some (.int (byj x j)))) (jm J) := by
    intro x
    rw [sg_179_45, e]
    rfl
  rw [sg_179_0]
  obtain rfl | rfl | rfl | rfl | rfl : i = 0 ∨ i = 1 ∨ i = 2 ∨ i = 3 ∨ i = 4 := by omega
  · rw [if_neg (by rw [jI_le (by omega) (by omega) (by omega) (by omega)]; omega), last]
  · rw [if_pos (by rw [jI_le (by omega) (by omega) (by omega) (by omega)]; omega), if_neg (by rw [jI_le (by omega) (by omega) (by omega) (by omega)]; omega), last]
  · rw [if_pos (by rw [jI_le (by omega) (by omega) (by omega) (by omega)]; omega), if_pos (by rw [jI_le (by omega) (by omega) (by omega) (by omega)]; omega), if_neg (by rw [jI_le (by omega) (by omega) (by omega) (by omega)]; omega), last]
  · rw [if_pos (by rw [jI_le (by omega) (by omega) (by omega) (by omega)]; omega), if_pos (by rw [jI_le (by omega) (by omega) (by omega) (by omega)]; omega), if_pos (by rw [jI_le (by omega) (by omega) (by omega) (by omega)]; omega), if_neg (by rw [jI_le (by omega) (by omega) (by omega) (by omega)]; omega), last]
  · rw [if_pos (by rw [jI_le (by omega) (by omega) (by omega) (by omega)]; omega), if_pos (by rw [jI_le (by omega) (by omega) (by omega) (by omega)]; omega), if_pos (by rw [jI_le (by omega) (by omega) (by omega) (by omega)]; omega), if_pos (by rw [jI_le (by omega) (by omega) (by omega) (by omega)]; omega), last]
/-- the reference's buffer -/
def rBf (J : zJ) (s : (Int → Int) × Int) : zJ := jrow (jrow J 354 s.1) 353 (sset (J 353) 2 s.2)
theorem rBf_4 {J : zJ} {s : (Int → Int) × Int} : rBf J s 354 = s.1 := by unfold rBf; rw [jrow_ne (by decide), jrow_same]
theorem rBf_3 {J : zJ} {s : (Int → Int) × Int} : rBf J s 353 = sset (J 353) 2 s.2 := jrow_same
theorem rBf_ne {J : zJ} {s : (Int → Int) × Int} {q : Nat} (h0 : q ≠ 353) (h2 : q ≠ 354) : rBf J s q = J q := by unfold rBf; rw [jrow_ne h0, jrow_ne h2]
theorem tot_le (xs : Nat → Int32) : ∀ n : Nat, tot xs n ≤ 4 * n := by
  intro n
  induction n with
  | zero => exact Nat.le_refl 0
  | succ n ih =>
    have := nzc_le (xs n) 4
    unfold tot
    omega
theorem tot_mo (xs : Nat → Int32) (i : Nat) : ∀ d : Nat, tot xs i ≤ tot xs (i + d) := by
  intro d
  induction d with
  | zero => exact Nat.le_refl _
  | succ d ih =>
    have e : tot xs (i + (d + 1)) = tot xs (i + d) + nzc (xs (i + d)) 4 := rfl
    omega
theorem tot_up (xs : Nat → Int32) {i : Nat} (hi : i < 5) : tot xs (i + 1) ≤ tot xs 5 := by
  have := tot_mo xs (i + 1) (4 - i)
  rw [show i + 1 + (4 - i) = 5 by omega] at this
  exact this
/-- the reference counts -/
theorem sp_180c (xs : Nat → Int32) : wz W 180 11 [.ref 353, .int (xs 0), .int (xs 1), .int (xs 2), .int (xs 3), .int (xs 4), .int (jI 0), .int (jI 0), .float 0] [] (jm J) Q = wz W 180 11 [.ref 353, .int (xs 0), .int (xs 1), .int (xs 2), .int (xs 3), .int (xs 4), .int (jI (tot xs 5)), .int (jI 20), .float 0] [] (jm J) Q := by
  have int : ∀ i : Nat, i < 5 → wz W 180 11 [.ref 353, .int (xs 0), .int (xs 1), .int (xs 2), .int (xs 3), .int (xs 4), .int (jI (tot xs i)), .int (jI (4 * i : Nat)), .float 0] [] (jm J) Q = wz W 180 11 [.ref 353, .int (xs 0), .int (xs 1), .int (xs 2), .int (xs 3), .int (xs 4), .int (jI (tot xs (i + 1))), .int (jI (4 * (i + 1) : Nat)), .float 0] [] (jm J) Q := by
    intro i hi
    have ht := tot_le xs i
    have key := zloop (f := fun j => wz W 180 11 [.ref 353, .int (xs 0), .int (xs 1), .int (xs 2), .int (xs 3), .int (xs 4), .int (jI (tot xs i + nzc (xs i) j : Nat)), .int (jI (4 * i + j : Nat)), .float 0] [] (jm J) Q) 4 (fun j hj => by
      try simp only
      have hz := nzc_le (xs i) j
      have e : nzc (xs i) (j + 1) = nzc (xs i) j + (if decide (byj (xs i) j ≠ 0) = true then 1 else 0) := cnt_step _ _
      rw [sg_180_11, if_neg (by rw [jI_le (by omega) (by omega) (by omega) (by omega)]; omega), sp_179 xs hi hj]
      simp only [zk_l, zk_r, Option.toList_some, Option.toList_none, List.cons_append, List.nil_append, zrokB, zrokB0, zrokB1, zrokJ0, zrokJ1, and_true, true_and, and_self, if_true, if_false, b2_0, b2_1, b2_not, ite_self]
      rw [sg_180_32, e]
      by_cases c : byj (xs i) j = 0
      · rw [if_pos c, sg_180_40, jI_add, jI_add, if_neg (by rw [decide_eq_false (fun h => h c)]; decide)]
        rfl
      · rw [if_neg c, sg_180_40, jI_add, jI_add, if_pos (decide_eq_true c)]
        rfl)
    exact key
  have key := zloop (f := fun i => wz W 180 11 [.ref 353, .int (xs 0), .int (xs 1), .int (xs 2), .int (xs 3), .int (xs 4), .int (jI (tot xs i)), .int (jI (4 * i : Nat)), .float 0] [] (jm J) Q) 5 (fun i hi => int i hi)
  exact key
/-- the reference appends -/
theorem sp_180a (xs : Nat → Int32) {s : (Int → Int) × Int} (h0 : 0 ≤ s.2) (h1 : s.2 + tot xs 5 ≤ 900) (x6 : Int32) : ∃ y8, wz W 180 80 [.ref 353, .int (xs 0), .int (xs 1), .int (xs 2), .int (xs 3), .int (xs 4), .int x6, .int (jI 0), .float 0] [] (jm (rBf J s)) Q = wz W 180 80 [.ref 353, .int (xs 0), .int (xs 1), .int (xs 2), .int (xs 3), .int (xs 4), .int x6, .int (jI 20), y8] [] (jm (rBf J (apA xs 5 s))) Q := by
  have int : ∀ i : Nat, i < 5 → ∀ x8 : Value, ∃ y8, wz W 180 80 [.ref 353, .int (xs 0), .int (xs 1), .int (xs 2), .int (xs 3), .int (xs 4), .int x6, .int (jI (4 * i : Nat)), x8] [] (jm (rBf J (apA xs i s))) Q = wz W 180 80 [.ref 353, .int (xs 0), .int (xs 1), .int (xs 2), .int (xs 3), .int (xs 4), .int x6, .int (jI (4 * (i + 1) : Nat)), y8] [] (jm (rBf J (apA xs (i + 1) s))) Q := by
    intro i hi x8
    have hA := apA_L xs s i
    have hup := tot_up xs hi
    have et : tot xs (i + 1) = tot xs i + nzc (xs i) 4 := rfl
    have key : ∀ n : Nat, n ≤ 4 → ∀ x8 : Value, ∃ y8, wz W 180 80 [.ref 353, .int (xs 0), .int (xs 1), .int (xs 2), .int (xs 3), .int (xs 4), .int x6, .int (jI (4 * i + (4 - n) : Nat)), x8] [] (jm (rBf J (apx (xs i) (4 - n) (apA xs i s)))) Q = wz W 180 80 [.ref 353, .int (xs 0), .int (xs 1), .int (xs 2), .int (xs 3), .int (xs 4), .int x6, .int (jI (4 * (i + 1) : Nat)), y8] [] (jm (rBf J (apx (xs i) 4 (apA xs i s)))) Q := by
      intro n
      induction n with
      | zero => intro _ x8; exact ⟨x8, rfl⟩
      | succ n ih =>
        intro hn x8
        have ih := ih (by omega)
        have hl : 4 - n = 4 - (n + 1) + 1 := by omega
        have hj : 4 - (n + 1) < 4 := by omega
        rw [hl] at ih
        generalize 4 - (n + 1) = j at *
        generalize apA xs i s = s' at *
        have hL := apx_L (xs i) s' j
        have e : apx (xs i) (j + 1) s' = if byj (xs i) j = 0 then apx (xs i) j s' else (sset (apx (xs i) j s').1 (apx (xs i) j s').2 (byj (xs i) j).toInt, (apx (xs i) j s').2 + 1) := rfl
        have hm : nzc (xs i) (j + 1) ≤ nzc (xs i) 4 := cnt_mo _ (by omega)
        have e2 : nzc (xs i) (j + 1) = nzc (xs i) j + (if decide (byj (xs i) j ≠ 0) = true then 1 else 0) := cnt_step _ _
        by_cases c : byj (xs i) j = 0
        · rw [if_pos c] at e
          obtain ⟨y8, hy⟩ := ih (.int (byj (xs i) j))
          refine ⟨y8, ?_⟩
          rw [sg_180_80, if_neg (by rw [jI_le (by omega) (by omega) (by omega) (by omega)]; omega), sp_179 xs hi hj]
          simp only [zk_l, zk_r, Option.toList_some, Option.toList_none, List.cons_append, List.nil_append, zrokB, zrokB0, zrokB1, zrokJ0, zrokJ1, and_true, true_and, and_self, if_true, if_false, b2_0, b2_1, b2_not, ite_self]
          rw [sg_180_99, if_pos c, sg_180_127, jI_add, ← e]
          exact hy
        · rw [if_neg c] at e
          rw [if_pos (decide_eq_true c)] at e2
          obtain ⟨y8, hy⟩ := ih (.int (byj (xs i) j))
          refine ⟨y8, ?_⟩
          have e3 : jm (rBf J (apx (xs i) j s')) 353 2 = jI (apx (xs i) j s').2 := by
            show jI (rBf J _ 353 2) = _
            rw [rBf_3, sset_eq rfl]
          have e4 : byj (xs i) j = jI (byj (xs i) j).toInt := (jI_of _).symm
          rw [sg_180_80, if_neg (by rw [jI_le (by omega) (by omega) (by omega) (by omega)]; omega), sp_179 xs hi hj]
          simp only [zk_l, zk_r, Option.toList_some, Option.toList_none, List.cons_append, List.nil_append, zrokB, zrokB0, zrokB1, zrokJ0, zrokJ1, and_true, true_and, and_self, if_true, if_false, b2_0, b2_1, b2_not, ite_self]
          rw [sg_180_99, if_neg c, e3, and_iff_r (jI_in (by omega) (by omega) (by decide))]
          have e5 : zset (jm (rBf J (apx (xs i) j s'))) 354 (jI (apx (xs i) j s').2).toNatClampNeg (byj (xs i) j) = jm (rBf J (sset (apx (xs i) j s').1 (apx (xs i) j s').2 (byj (xs i) j).toInt, (apx (xs i) j s').2)) := by
            have h9 := jz_cl (J := rBf J (apx (xs i) j s')) (a := 354) (i := (apx (xs i) j s').2) (v := (byj (xs i) j).toInt) (by omega) (by omega)
            rw [← e4] at h9
            refine h9.trans (congrArg jm ?_)
            rw [rBf_4]
            unfold rBf
            funext q
            by_cases d : q = 354
            · rw [d, jrow_same, jrow_ne (by decide), jrow_same]
            · rw [jrow_ne d]
              by_cases d2 : q = 353
              · rw [d2, jrow_same, jrow_same]
              · rw [jrow_ne d2, jrow_ne d2, jrow_ne d, jrow_ne d]
          rw [e5]
          have e6 : zset (jm (rBf J (sset (apx (xs i) j s').1 (apx (xs i) j s').2 (byj (xs i) j).toInt, (apx (xs i) j s').2))) 353 2 (jm (rBf J (sset (apx (xs i) j s').1 (apx (xs i) j s').2 (byj (xs i) j).toInt, (apx (xs i) j s').2)) 353 2 + jI 1) = jm (rBf J (apx (xs i) (j + 1) s')) := by
            have : jm (rBf J (sset (apx (xs i) j s').1 (apx (xs i) j s').2 (byj (xs i) j).toInt, (apx (xs i) j s').2)) 353 2 + jI 1 = jI ((apx (xs i) j s').2 + 1) := by
              show jI (rBf J _ 353 2) + jI 1 = _
              rw [rBf_3, sset_eq rfl, jI_add]
            rw [this, e]
            have h9 := jz_n (J := rBf J (sset (apx (xs i) j s').1 (apx (xs i) j s').2 (byj (xs i) j).toInt, (apx (xs i) j s').2)) (a := 353) (n := 2) (v := (apx (xs i) j s').2 + 1)
            refine Eq.trans h9 (congrArg jm ?_)
            rw [rBf_3]
            unfold rBf
            funext q
            by_cases d2 : q = 353
            · rw [d2, jrow_same, jrow_same]
              exact sset_ss
            · rw [jrow_ne d2, jrow_ne d2, jrow_ne d2]
          rw [e6, sg_180_127, jI_add]
          exact hy
    obtain ⟨y8, hy⟩ := key 4 (Nat.le_refl _) x8
    rw [Nat.sub_self] at hy
    exact ⟨y8, hy⟩
  have all : ∀ n : Nat, n ≤ 5 → ∀ x8 : Value, ∃ y8, wz W 180 80 [.ref 353, .int (xs 0), .int (xs 1), .int (xs 2), .int (xs 3), .int (xs 4), .int x6, .int (jI (4 * (5 - n) : Nat)), x8] [] (jm (rBf J (apA xs (5 - n) s))) Q = wz W 180 80 [.ref 353, .int (xs 0), .int (xs 1), .int (xs 2), .int (xs 3), .int (xs 4), .int x6, .int (jI 20), y8] [] (jm (rBf J (apA xs 5 s))) Q := by
    intro n
    induction n with
    | zero => intro _ x8; exact ⟨x8, rfl⟩
    | succ n ih =>
      intro hn x8
      obtain ⟨y8, h⟩ := int (5 - (n + 1)) (by omega) x8
      rw [show 5 - (n + 1) + 1 = 5 - n by omega] at h
      obtain ⟨z8, h2⟩ := ih (by omega) y8
      exact ⟨z8, h.trans h2⟩
  obtain ⟨y8, h⟩ := all 5 (Nat.le_refl _) (.float 0)
  exact ⟨y8, h⟩
end
section
variable {W : zW} {k : Int}
theorem op_append (xs : Nat → Int32) : Op W k [2] 99 180 [.ref 0, .int (xs 0), .int (xs 1), .int (xs 2), .int (xs 3), .int (xs 4), .float 0] [.ref 353, .int (xs 0), .int (xs 1), .int (xs 2), .int (xs 3), .int (xs 4), .float 0, .float 0, .float 0] := by
  intro J g t
  obtain ⟨⟨g1, g2⟩, g3, g4, ⟨g5, g6, g7, g8⟩, g9, g10⟩ := id g
  obtain ⟨⟨h1, h2, h3⟩, h4, h5, ⟨h6, h7, h8⟩, h9, h10⟩ := id t
  have ht := tot_le xs 5
  have e5 : tot xs 5 = tot xs 4 + nzc (xs 4) 4 := rfl
  have e4 : tot xs 4 = tot xs 3 + nzc (xs 3) 4 := rfl
  have e3 : tot xs 3 = tot xs 2 + nzc (xs 2) 4 := rfl
  have e2 : tot xs 2 = tot xs 1 + nzc (xs 1) 4 := rfl
  have e1 : tot xs 1 = 0 + nzc (xs 0) 4 := rfl
  have hsum : (((((nzc (xs 0) 4 : Int) + nzc (xs 1) 4) + nzc (xs 2) 4) + nzc (xs 3) 4) + nzc (xs 4) 4) = tot xs 5 := by omega
  have hcl : ∀ Q : zO → zI → Prop, wz W 99 0 [.ref 0, .int (xs 0), .int (xs 1), .int (xs 2), .int (xs 3), .int (xs 4), .float 0] [] (jm J) Q = (if J 353 2 + tot xs 5 ≤ 900 then wz W 161 0 [.ref 0, .int (xs 0), .float 0, .float 0] [] (jm J) (zk Q (fun v I1 => wz W 99 56 [.ref 0, .int (xs 0), .int (xs 1), .int (xs 2), .int (xs 3), .int (xs 4), .int (jI (tot xs 5))] (v.toList ++ []) I1 Q)) else Q (oE 2) (jm J)) := by
    intro Q
    rw [sg_99_0, sp_160]
    simp only [zk_l, zk_r, Option.toList_some, Option.toList_none, List.cons_append, List.nil_append, zrokB, zrokB0, zrokB1, zrokJ0, zrokJ1, and_true, true_and, and_self, if_true, if_false, b2_0, b2_1, b2_not, ite_self]
    rw [sg_99_4, sp_160]
    simp only [zk_l, zk_r, Option.toList_some, Option.toList_none, List.cons_append, List.nil_append, zrokB, zrokB0, zrokB1, zrokJ0, zrokJ1, and_true, true_and, and_self, if_true, if_false, b2_0, b2_1, b2_not, ite_self]
    rw [sg_99_8, sp_160]
    simp only [zk_l, zk_r, Option.toList_some, Option.toList_none, List.cons_append, List.nil_append, zrokB, zrokB0, zrokB1, zrokJ0, zrokJ1, and_true, true_and, and_self, if_true, if_false, b2_0, b2_1, b2_not, ite_self]
    rw [sg_99_13, sp_160]
    simp only [zk_l, zk_r, Option.toList_some, Option.toList_none, List.cons_append, List.nil_append, zrokB, zrokB0, zrokB1, zrokJ0, zrokJ1, and_true, true_and, and_self, if_true, if_false, b2_0, b2_1, b2_not, ite_self]
    rw [sg_99_19, sp_160]
    simp only [zk_l, zk_r, Option.toList_some, Option.toList_none, List.cons_append, List.nil_append, zrokB, zrokB0, zrokB1, zrokJ0, zrokJ1, and_true, true_and, and_self, if_true, if_false, b2_0, b2_1, b2_not, ite_self]
    rw [sg_99_25]
    simp (disch := first | assumption | omega) only [g1, Int.add_zero, jI_nat, jI_add, jI_sub, jI_mul, jI_neg, jI_lt, jI_le, jI_eq, jI_lt0, jI_0lt, jI_le0, jI_0le, jI_eq0, jI_in, jI_dv, i_mod, jI_cl, jm_n, jz_n, i_lit, i_c0, i_c1, Int.toNat_of_nonneg, Int.toNat_natCast, jrow_same, jrow_ne, jrow_jrow, sset_eq, sset_ne]
    rw [hsum]
  have href : ∀ Q : zO → zI → Prop, wz W 180 0 [.ref 353, .int (xs 0), .int (xs 1), .int (xs 2), .int (xs 3), .int (xs 4), .float 0, .float 0, .float 0] [] (jm J) Q = wz W 178 0 [.ref 353, .int (b2 (decide (J 353 2 + tot xs 5 ≤ 900))), .int (jI 1)] [] (jm (jrow J 353 (sset (J 353) 0 0))) (zk Q (fun v I1 => wz W 180 72 [.ref 353, .int (xs 0), .int (xs 1), .int (xs 2), .int (xs 3), .int (xs 4), .int (jI (tot xs 5)), .int (jI 20), .float 0] (v.toList ++ []) I1 Q)) := by
    intro Q
    rw [sg_180_0]
    simp (disch := first | assumption | omega) only [jI_cl, jm_n, jz_n, i_lit, i_c0, i_c1, Int.toNat_of_nonneg, Int.toNat_natCast, jrow_same, jrow_ne, jrow_jrow, sset_eq, sset_ne]
    refine (sp_180c xs).trans ?_
    rw [sg_180_11, if_pos (by decide)]
    have e9 : jm (jrow J 353 (sset (J 353) 0 0)) 353 2 = jI (J 353 2) := by
      show jI (jrow J 353 (sset (J 353) 0 0) 353 2) = _
      rw [jrow_same, sset_ne (by decide)]
    rw [e9, jI_add]
    by_cases c : J 353 2 + tot xs 5 ≤ 900
    · rw [if_neg (by rw [jI_lt (by omega) (by omega) (by omega) (by omega)]; omega), sg_180_68, decide_eq_true c]
      rfl
    · rw [if_pos (by rw [jI_lt (by omega) (by omega) (by omega) (by omega)]; omega), sg_180_68, decide_eq_false c]
      rfl
  by_cases v : J 353 2 + tot xs 5 ≤ 900
  · let s0 : (Int → Int) × Int := (J 2, J 353 2)
    let t0 : (Int → Int) × Int := (J 354, J 353 2)
    have hc0 : cB J s0 = J := by
      show jrow (jrow J 2 (J 2)) 0 (sset (J 0) 1 (J 353 2)) = J
      rw [jrow_id, ← g1]
      have : sset (J 0) 1 (J 0 1) = J 0 := by
        funext j
        unfold sset
        split
        · rename_i h; rw [h]
        · rfl
      rw [this, jrow_id]
    have L1 := apA_L xs s0 1
    have L2 := apA_L xs s0 2
    have L3 := apA_L xs s0 3
    have L4 := apA_L xs s0 4
    have L5 := apA_L xs s0 5
    have M5 := apA_L xs t0 5
    have hs2 : s0.2 = J 353 2 := rfl
    have ht2 : t0.2 = J 353 2 := rfl
    let J1 : zJ := cB J (apA xs 5 s0)
    have q353 : J1 353 = J 353 := cB_ne (by decide) (by decide)
    have q354 : J1 354 = J 354 := cB_ne (by decide) (by decide)
    have q355 : J1 355 = J 355 := cB_ne (by decide) (by decide)
    let Ja : zJ := jrow J1 353 (sset (J 353) 0 0)
    let J2 : zJ := rBf Ja (apA xs 5 t0)
    have k353 : J2 353 = sset (sset (J 353) 0 0) 2 (apA xs 5 t0).2 := by
      show rBf Ja _ 353 = _
      rw [rBf_3]
      show sset (jrow J1 353 _ 353) 2 _ = _
      rw [jrow_same]
    have k354 : J2 354 = (apA xs 5 t0).1 := rBf_4
    have kne : ∀ r, r ≠ 0 → r ≠ 2 → r ≠ 353 → r ≠ 354 → J2 r = J r := fun r a b c d => by
      show rBf Ja _ r = _
      rw [rBf_ne c d]
      show jrow _ _ _ r = _
      rw [jrow_ne c]
      exact cB_ne a b
    have k0 : J2 0 = sset (J 0) 1 (apA xs 5 s0).2 := by
      show rBf Ja _ 0 = _
      rw [rBf_ne (by decide) (by decide)]
      show jrow _ _ _ 0 = _
      rw [jrow_ne (by decide)]
      exact cB_0
    have k2 : J2 2 = (apA xs 5 s0).1 := by
      show rBf Ja _ 2 = _
      rw [rBf_ne (by decide) (by decide)]
      show jrow _ _ _ 2 = _
      rw [jrow_ne (by decide)]
      exact cB_2
    have hh : ∀ i, hs J2 i = hs J i := fun i => by
      unfold hs
      rw [kne 359 (by decide) (by decide) (by decide) (by decide)]
    have heq := apA_eq xs (f := J 2) (g := J 354) (L := J 353 2) h1 g2 5
    have hbd := apA_bd xs (f := J 354) (L := J 353 2) h1 h3 5
    refine ⟨oI (J 353 2 + tot xs 5), J1, J 353 2 + tot xs 5, J2, fun Q => ?_, fun Q => ?_, ⟨⟨?_, fun i i0 i1 => ?_⟩, ?_, ?_, ⟨?_, ?_, ?_, fun i i0 i1 => ?_⟩, ?_, fun hq => ?_⟩, ⟨⟨?_, ?_, fun i i0 i1 => ?_⟩, ?_, ?_, ⟨?_, ?_, fun i i0 i1 => ?_⟩, ?_, fun hq => ?_⟩, Or.inl ⟨rfl, ?_⟩⟩
    · have p0 := fun Q => sp_161 (W := W) (J := J) (Q := Q) (xs 0) (s := s0) (by omega) (by omega)
      rw [hc0] at p0
      rw [hcl, if_pos v]
      refine (p0 _).trans ?_
      simp only [zk_l, zk_r, Option.toList_some, Option.toList_none, List.cons_append, List.nil_append, zrokB, zrokB0, zrokB1, zrokJ0, zrokJ1, and_true, true_and, and_self, if_true, if_false, b2_0, b2_1, b2_not, ite_self]
      rw [sg_99_56]
      refine (sp_161 (xs 1) (s := apA xs 1 s0) (by omega) (by omega)).trans ?_
      simp only [zk_l, zk_r, Option.toList_some, Option.toList_none, List.cons_append, List.nil_append, zrokB, zrokB0, zrokB1, zrokJ0, zrokJ1, and_true, true_and, and_self, if_true, if_false, b2_0, b2_1, b2_not, ite_self]
      rw [sg_99_61]
      refine (sp_161 (xs 2) (s := apA xs 2 s0) (by omega) (by omega)).trans ?_
      simp only [zk_l, zk_r, Option.toList_some, Option.toList_none, List.cons_append, List.nil_append, zrokB, zrokB0, zrokB1, zrokJ0, zrokJ1, and_true, true_and, and_self, if_true, if_false, b2_0, b2_1, b2_not, ite_self]
      rw [sg_99_66]
      refine (sp_161 (xs 3) (s := apA xs 3 s0) (by omega) (by omega)).trans ?_
      simp only [zk_l, zk_r, Option.toList_some, Option.toList_none, List.cons_append, List.nil_append, zrokB, zrokB0, zrokB1, zrokJ0, zrokJ1, and_true, true_and, and_self, if_true, if_false, b2_0, b2_1, b2_not, ite_self]
      rw [sg_99_72]
      refine (sp_161 (xs 4) (s := apA xs 4 s0) (by omega) (by omega)).trans ?_
      simp only [zk_l, zk_r, Option.toList_some, Option.toList_none, List.cons_append, List.nil_append, zrokB, zrokB0, zrokB1, zrokJ0, zrokJ1, and_true, true_and, and_self, if_true, if_false, b2_0, b2_1, b2_not, ite_self]
      rw [sg_99_78]
      have e9 : jm (cB J (apx (xs 4) 4 (apA xs 4 s0))) 0 1 = jI (J 353 2 + tot xs 5) := by
        show jI (cB J _ 0 1) = _
        rw [cB_0, sset_eq rfl]
        congr 1
      rw [e9]
      rfl
    · have hrf := sp_180a (W := W) (J := Ja) (Q := Q) xs (s := t0) (by omega) (by omega) (jI (tot xs 5))
      obtain ⟨y8, hy⟩ := hrf
      have hc1 : rBf Ja t0 = Ja := by
        show jrow (jrow Ja 354 (J 354)) 353 (sset (Ja 353) 2 (J 353 2)) = Ja
        have ha : Ja 354 = J 354 := by
          show jrow _ _ _ 354 = _
          rw [jrow_ne (by decide)]
          exact q354
        have hb : Ja 353 = sset (J 353) 0 0 := jrow_same
        rw [← ha, jrow_id, hb]
        have : sset (sset (J 353) 0 0) 2 (J 353 2) = sset (J 353) 0 0 := by
          funext j
          unfold sset
          by_cases c : j = 2
          · rw [if_pos c, if_neg (by omega), c]
          · rw [if_neg c]
        rw [this, ← hb, jrow_id]
      rw [hc1] at hy
      -- the count, from the class's memory
      have href1 : wz W 180 0 [.ref 353, .int (xs 0), .int (xs 1), .int (xs 2), .int (xs 3), .int (xs 4), .float 0, .float 0, .float 0] [] (jm J1) Q = wz W 180 80 [.ref 353, .int (xs 0), .int (xs 1), .int (xs 2), .int (xs 3), .int (xs 4), .int (jI (tot xs 5)), .int (jI 0), .float 0] [] (jm Ja) Q := by
        rw [sg_180_0]
        simp (disch := first | assumption | omega) only [q353, jI_cl, jm_n, jz_n, i_lit, i_c0, i_c1, Int.toNat_of_nonneg, Int.toNat_natCast, jrow_same, jrow_ne, jrow_jrow, sset_eq, sset_ne]
        refine (sp_180c xs).trans ?_
        rw [sg_180_11, if_pos (by decide)]
        have e9 : jm (jrow J1 353 (sset (J 353) 0 0)) 353 2 = jI (J 353 2) := by
          show jI (jrow J1 353 (sset (J 353) 0 0) 353 2) = _
          rw [jrow_same, sset_ne (by decide)]
        rw [e9, jI_add, if_neg (by rw [jI_lt (by omega) (by omega) (by omega) (by omega)]; omega), sg_180_68]
        refine Eq.trans (sp_178t (W := W) 1) ?_
        simp only [zk_l, zk_r, Option.toList_some, Option.toList_none, List.cons_append, List.nil_append, zrokB, zrokB0, zrokB1, zrokJ0, zrokJ1, and_true, true_and, and_self, if_true, if_false, b2_0, b2_1, b2_not, ite_self]
        rw [sg_180_72, if_pos (by decide)]
      rw [href1, hy, sg_180_80, if_pos (by decide)]
      have e9 : jm (rBf Ja (apA xs 5 t0)) 353 2 = jI (J 353 2 + tot xs 5) := by
        show jI (rBf Ja _ 353 2) = _
        rw [rBf_3, sset_eq rfl, M5]
      rw [e9]
    · rw [k0, k353, sset_eq rfl, sset_eq rfl, L5, M5]
    · rw [k353, sset_eq rfl, M5] at i1
      rw [k2, k354]
      exact heq i i0 (by
        have : (apA xs 5 (J 2, J 353 2)).2 = J 353 2 + tot xs 5 := L5
        rw [this]
        exact i1)
    · rw [kne 355 (by decide) (by decide) (by decide) (by decide)]; exact RS_fr g3 (fun r a b => kne r (by omega) (by omega) (by omega) (by omega))
    · rw [kne 355 (by decide) (by decide) (by decide) (by decide)]; exact RU_fr g4 h4 (fun r a b => kne r (by omega) (by omega) (by omega) (by omega))
    · rw [kne 130 (by decide) (by decide) (by decide) (by decide), k353, sset_ne (by decide), sset_ne (by decide)]; exact g5
    · rw [kne 130 (by decide) (by decide) (by decide) (by decide)]; exact g6
    · rw [kne 130 (by decide) (by decide) (by decide) (by decide)]; exact g7
    · rw [k353, sset_ne (by decide), sset_ne (by decide)] at i1
      rw [kne 130 (by decide) (by decide) (by decide) (by decide), hh]
      exact RS_fr (g8 i i0 i1) (fun r a b => kne r (by unfold hb at a; omega) (by unfold hb at a; omega) (by unfold hb at b; omega) (by unfold hb at b; omega))
    · rw [k0, k353, sset_ne (by decide), sset_ne (by decide), sset_ne (by decide)]; exact g9
    · rw [k353, sset_ne (by decide), sset_ne (by decide)] at hq
      rw [kne 360 (by decide) (by decide) (by decide) (by decide)]
      exact RS_fr (g10 hq) (fun r a b => kne r (by omega) (by omega) (by omega) (by omega))
    · rw [k353, sset_eq rfl, M5]; omega
    · rw [k353, sset_eq rfl, M5]; omega
    · rw [k353, sset_eq rfl, M5] at i1
      rw [k354]
      exact hbd i i0 (by
        have : (apA xs 5 (J 354, J 353 2)).2 = J 353 2 + tot xs 5 := M5
        rw [this]
        exact i1)
    · rw [kne 355 (by decide) (by decide) (by decide) (by decide)]; exact h4
    · rw [kne 355 (by decide) (by decide) (by decide) (by decide)]; exact okD_mono h5 (Int.le_refl _) (by omega)
    · rw [k353, sset_ne (by decide), sset_ne (by decide)]; exact h6
    · rw [k353, sset_ne (by decide), sset_ne (by decide)]; exact h7
    · rw [k353, sset_ne (by decide), sset_ne (by decide)] at i1
      rw [kne 355 (by decide) (by decide) (by decide) (by decide), hh]
      obtain ⟨w1, w2⟩ := h8 i i0 i1
      exact ⟨w1, okD_mono w2 (Int.le_refl _) (by omega)⟩
    · rw [k353, sset_ne (by decide), sset_ne (by decide)]; exact h9
    · rw [k353, sset_ne (by decide), sset_ne (by decide)] at hq
      rw [kne 355 (by decide) (by decide) (by decide) (by decide), kne 360 (by decide) (by decide) (by decide) (by decide)]
      obtain ⟨w1, w2⟩ := h10 hq
      exact ⟨w1, okD_mono w2 (Int.le_refl _) (by omega)⟩
    · rw [k353, sset_ne (by decide), sset_eq rfl]
  · refine opq g t ⟨oE 2, J, 0, jrow J 353 (sset (J 353) 0 1), fun Q => ?_, fun Q => ?_, kp_thr, mt_er 0 2 rfl rfl⟩
    · rw [hcl, if_neg v]
    · rw [href, decide_eq_false v]
      refine Eq.trans (sp_178f (W := W) 1) ?_
      simp only [sset_ss, zk_l, zk_r, Option.toList_some, Option.toList_none, List.cons_append, List.nil_append, zrokB, zrokB0, zrokB1, zrokJ0, zrokJ1, and_true, true_and, and_self, if_true, if_false, b2_0, b2_1, b2_not, ite_self, jI_cl, jm_n, jz_n, i_lit, i_c0, i_c1, Int.toNat_of_nonneg, Int.toNat_natCast, jrow_same, jrow_ne, jrow_jrow, sset_eq, sset_ne]
      rw [sg_180_72, if_neg (by decide)]
theorem op_truncate {n : Int} (p1 : -2147483648 ≤ n) (p2 : n < 2147483648) : Op W k [1] 100 181 [.ref 0, .int (jI n)] [.ref 353, .int (jI n)] := by
  intro J g t
  obtain ⟨⟨g1, g2⟩, g3, g4, ⟨g5, g6, g7, g8⟩, g9, g10⟩ := id g
  obtain ⟨⟨h1, h2, h3⟩, h4, h5, ⟨h6, h7, h8⟩, h9, h10⟩ := id t
  have href : ∀ (J1 : zJ), J1 353 = J 353 → ∀ Q : zO → zI → Prop, wz W 181 0 [.ref 353, .int (jI n)] [] (jm J1) Q = wz W 178 0 [.ref 353, .int (b2 (decide (0 ≤ n) && decide (n ≤ J 353 2))), .int (jI 1)] [] (jm (jrow J1 353 (sset (J 353) 0 0))) (zk Q (fun v I1 => wz W 181 19 [.ref 353, .int (jI n)] (v.toList ++ []) I1 Q)) := by
    intro J1 q Q
    rw [sg_181_0]
    simp (disch := first | assumption | omega) only [q, jI_cl, jm_n, jz_n, i_lit, i_c0, i_c1, Int.toNat_of_nonneg, Int.toNat_natCast, jrow_same, jrow_ne, jrow_jrow, sset_eq, sset_ne]
    rw [sp_176j p1 p2 (by omega) (by omega) (by omega) (by omega)]
    simp only [zk_l, zk_r, Option.toList_some, Option.toList_none, List.cons_append, List.nil_append, zrokB, zrokB0, zrokB1, zrokJ0, zrokJ1, and_true, true_and, and_self, if_true, if_false, b2_0, b2_1, b2_not, ite_self]
    rw [sg_181_15]
  by_cases v : 0 ≤ n ∧ n ≤ J 353 2
  · let J1 : zJ := jrow J 0 (sset (J 0) 1 n)
    have q353 : J1 353 = J 353 := jrow_ne (by decide)
    let J2 : zJ := jrow J1 353 (sset (sset (J 353) 0 0) 2 n)
    have k353 : J2 353 = sset (sset (J 353) 0 0) 2 n := jrow_same
    have k0 : J2 0 = sset (J 0) 1 n := by
      show jrow _ _ _ 0 = _
      rw [jrow_ne (by decide)]
      exact jrow_same
    have kne : ∀ r, r ≠ 0 → r ≠ 353 → J2 r = J r := fun r a c => by
      show jrow _ _ _ r = _
      rw [jrow_ne c]
      exact jrow_ne a
    have hh : ∀ i, hs J2 i = hs J i := fun i => by
      unfold hs
      rw [kne 359 (by decide) (by decide)]
    refine ⟨oI n, J1, n, J2, fun Q => ?_, fun Q => ?_, ⟨⟨?_, fun i i0 i1 => ?_⟩, ?_, ?_, ⟨?_, ?_, ?_, fun i i0 i1 => ?_⟩, ?_, fun hq => ?_⟩, ⟨⟨?_, ?_, fun i i0 i1 => ?_⟩, ?_, ?_, ⟨?_, ?_, fun i i0 i1 => ?_⟩, ?_, fun hq => ?_⟩, Or.inl ⟨rfl, ?_⟩⟩
    · rw [sg_100_0, if_neg (by rw [jI_lt0 (by omega) (by omega)]; omega)]
      simp (disch := first | assumption | omega) only [g1, jI_cl, jm_n, jz_n, i_lit, i_c0, i_c1, Int.toNat_of_nonneg, Int.toNat_natCast, jrow_same, jrow_ne, jrow_jrow, sset_eq, sset_ne]
      rw [if_pos (by rw [jI_le (by omega) (by omega) (by omega) (by omega)]; omega)]
    · rw [href J1 q353, decide_eq_true v.1, decide_eq_true v.2, Bool.and_self]
      refine Eq.trans (sp_178t (W := W) 1) ?_
      simp only [zk_l, zk_r, Option.toList_some, Option.toList_none, List.cons_append, List.nil_append, zrokB, zrokB0, zrokB1, zrokJ0, zrokJ1, and_true, true_and, and_self, if_true, if_false, b2_0, b2_1, b2_not, ite_self]
      rw [sg_181_19, if_pos (by decide)]
      simp (disch := first | assumption | omega) only [jI_cl, jm_n, jz_n, i_lit, i_c0, i_c1, Int.toNat_of_nonneg, Int.toNat_natCast, jrow_same, jrow_ne, jrow_jrow, sset_eq, sset_ne]
      rfl
    · rw [k0, k353, sset_eq rfl, sset_eq rfl]
    · rw [k353, sset_eq rfl] at i1
      rw [kne 2 (by decide) (by decide), kne 354 (by decide) (by decide)]
      exact g2 i i0 (by omega)
    · rw [kne 355 (by decide) (by decide)]; exact RS_fr g3 (fun r a b => kne r (by omega) (by omega))
    · rw [kne 355 (by decide) (by decide)]; exact RU_fr g4 h4 (fun r a b => kne r (by omega) (by omega))
    · rw [kne 130 (by decide) (by decide), k353, sset_ne (by decide), sset_ne (by decide)]; exact g5
    · rw [kne 130 (by decide) (by decide)]; exact g6
    · rw [kne 130 (by decide) (by decide)]; exact g7
    · rw [k353, sset_ne (by decide), sset_ne (by decide)] at i1
      rw [kne 130 (by decide) (by decide), hh]
      exact RS_fr (g8 i i0 i1) (fun r a b => kne r (by unfold hb at a; omega) (by unfold hb at b; omega))
    · rw [k0, k353, sset_ne (by decide), sset_ne (by decide), sset_ne (by decide)]; exact g9
    · rw [k353, sset_ne (by decide), sset_ne (by decide)] at hq
      rw [kne 360 (by decide) (by decide)]
      exact RS_fr (g10 hq) (fun r a b => kne r (by omega) (by omega))
    · rw [k353, sset_eq rfl]; exact v.1
    · rw [k353, sset_eq rfl]; omega
    · rw [k353, sset_eq rfl] at i1
      rw [kne 354 (by decide) (by decide)]
      exact h3 i i0 (by omega)
    · rw [kne 355 (by decide) (by decide)]; exact h4
    · rw [kne 355 (by decide) (by decide)]; exact okD_mono h5 (Int.le_refl _) (by omega)
    · rw [k353, sset_ne (by decide), sset_ne (by decide)]; exact h6
    · rw [k353, sset_ne (by decide), sset_ne (by decide)]; exact h7
    · rw [k353, sset_ne (by decide), sset_ne (by decide)] at i1
      rw [kne 355 (by decide) (by decide), hh]
      obtain ⟨w1, w2⟩ := h8 i i0 i1
      exact ⟨w1, okD_mono w2 (Int.le_refl _) (by omega)⟩
    · rw [k353, sset_ne (by decide), sset_ne (by decide)]; exact h9
    · rw [k353, sset_ne (by decide), sset_ne (by decide)] at hq
      rw [kne 355 (by decide) (by decide), kne 360 (by decide) (by decide)]
      obtain ⟨w1, w2⟩ := h10 hq
      exact ⟨w1, okD_mono w2 (Int.le_refl _) (by omega)⟩
    · rw [k353, sset_ne (by decide), sset_eq rfl]
  · have ef : (decide (0 ≤ n) && decide (n ≤ J 353 2)) = false := by
      rw [← Bool.not_eq_true, Bool.and_eq_true, decide_eq_true_eq, decide_eq_true_eq]
      exact v
    refine opq g t ⟨oE 1, J, 0, jrow J 353 (sset (J 353) 0 1), fun Q => ?_, fun Q => ?_, kp_thr, mt_er 0 1 rfl rfl⟩
    · rw [sg_100_0]
      by_cases c : n < 0
      · rw [if_pos (by rw [jI_lt0 (by omega) (by omega)]; exact c), sg_100_12]
      · rw [if_neg (by rw [jI_lt0 (by omega) (by omega)]; exact c)]
        simp (disch := first | assumption | omega) only [g1, jI_cl, jm_n, jz_n, i_lit, i_c0, i_c1, Int.toNat_of_nonneg, Int.toNat_natCast, jrow_same, jrow_ne, jrow_jrow, sset_eq, sset_ne]
        rw [if_neg (by rw [jI_le (by omega) (by omega) (by omega) (by omega)]; omega), sg_100_12]
    · rw [href J rfl, ef]
      refine Eq.trans (sp_178f (W := W) 1) ?_
      simp only [sset_ss, zk_l, zk_r, Option.toList_some, Option.toList_none, List.cons_append, List.nil_append, zrokB, zrokB0, zrokB1, zrokJ0, zrokJ1, and_true, true_and, and_self, if_true, if_false, b2_0, b2_1, b2_not, ite_self, jI_cl, jm_n, jz_n, i_lit, i_c0, i_c1, Int.toNat_of_nonneg, Int.toNat_natCast, jrow_same, jrow_ne, jrow_jrow, sset_eq, sset_ne]
      rw [sg_181_19, if_neg (by decide)]
end
