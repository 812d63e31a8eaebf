/-! ===== sets of cells as masks ===== -/
def mk (n : Nat) (E : Int → Bool) : Int32 := mskN (fun k => E (k : Int)) n
theorem b_mk {n : Nat} (hn : n ≤ 32) (E : Int → Bool) {i : Nat} (hi : i < 32) : bt (mk n E) i = (decide (i < n) && E (i : Int)) := b_msk _ n hn i hi
theorem mk_ext {n : Nat} (hn : n ≤ 32) {E : Int → Bool} {x : Int32} (h : ∀ i, i < 32 → bt x i = (decide (i < n) && E (i : Int))) : x = mk n E := b_ext (fun i hi => by rw [h i hi, b_mk hn E hi])
theorem mk_congr {n : Nat} {E F : Int → Bool} (h : ∀ k : Int, 0 ≤ k → k < n → E k = F k) : mk n E = mk n F := by
  unfold mk
  have key : ∀ m : Nat, m ≤ n → mskN (fun k => E (k : Int)) m = mskN (fun k => F (k : Int)) m := by
    intro m
    induction m with
    | zero => intro _; rfl
    | succ m ih =>
      intro hm
      unfold mskN
      rw [ih (by omega)]
      try simp only
      rw [h m (by omega) (by omega)]
  exact key n (Nat.le_refl n)
theorem mk_or {n : Nat} (hn : n ≤ 32) (E F : Int → Bool) : mk n E ||| mk n F = mk n (fun k => E k || F k) := mk_ext hn (fun i hi => by rw [b_or, b_mk hn E hi, b_mk hn F hi]; cases decide (i < n) <;> rfl)
theorem mk_and {n : Nat} (hn : n ≤ 32) (E F : Int → Bool) : mk n E &&& mk n F = mk n (fun k => E k && F k) := mk_ext hn (fun i hi => by rw [b_and, b_mk hn E hi, b_mk hn F hi]; cases decide (i < n) <;> rfl)
theorem mk_dif {n : Nat} (hn : n ≤ 32) (E F : Int → Bool) : mk n E &&& (mk n F ^^^ jI (-1)) = mk n (fun k => E k && !(F k)) := mk_ext hn (fun i hi => by
  rw [b_and, b_xor, show jI (-1) = -1 from rfl, b_m1 i hi, b_mk hn E hi, b_mk hn F hi]
  cases decide (i < n) <;> simp)
theorem mk_bt {n : Nat} (hn : n ≤ 32) (E : Int → Bool) {k : Int} (h0 : 0 ≤ k) (h1 : k < n) : bt (mk n E) k.toNat = E k := by
  rw [b_mk hn E (by omega), decide_eq_true (by omega), Bool.true_and, Int.toNat_of_nonneg h0]
theorem mk_0 {n : Nat} : mk n (fun _ => false) = jI 0 := by
  unfold mk
  induction n with
  | zero => rfl
  | succ n ih =>
    show (mskN (fun k => (fun _ => false) (k : Int)) n ||| (if false = true then (1 : Int32) <<< (jI n &&& 31) else 0)) = jI 0
    rw [ih, if_neg (by decide)]
    decide
theorem mk_eq0 {n : Nat} (hn : n ≤ 32) (E : Int → Bool) : (mk n E = 0) = (zAnyB (fun k => E (k : Int)) n = false) := by
  apply propext
  rw [← Bool.not_eq_true, zAnyB_iff]
  constructor
  · rintro h ⟨j, hj, hE⟩
    have := b_mk hn E (i := j) (by omega)
    rw [h, b_0, hE, decide_eq_true hj] at this
    cases this
  · intro h
    have : mk n E = mk n (fun _ => false) := mk_congr (fun k h0 h1 => by
      cases he : E k with
      | false => rfl
      | true => exact absurd ⟨k.toNat, by omega, by rw [Int.toNat_of_nonneg h0]; exact he⟩ h)
    rw [this, mk_0]
    rfl
theorem b_shlj {k : Int} (h0 : 0 ≤ k) (h1 : k < 32) (x : Int32) {i : Nat} (hi : i < 32) : bt (x <<< (jI k &&& 31)) i = (decide (k.toNat ≤ i) && bt x (i - k.toNat)) := by
  rw [jI_n h0, b_shl k.toNat (by omega) x hi]
theorem b_ushj {k : Int} (h0 : 0 ≤ k) (h1 : k < 32) (x : Int32) (i : Nat) : bt (jushr x (jI k)) i = bt x (k.toNat + i) := by
  rw [jI_n h0]
  unfold jushr
  rw [b_ushr k.toNat (by omega)]
theorem mk_one {n : Nat} (hn : n ≤ 32) {k : Int} (h0 : 0 ≤ k) (h1 : k < n) : jI 1 <<< (jI k &&& 31) = mk n (fun j => decide (j = k)) := mk_ext hn (fun i hi => by
  rw [show jI 1 = (1 : Int32) from rfl, b_one h0 (by omega) hi]
  by_cases h : i = k.toNat
  · rw [decide_eq_true h, decide_eq_true (show i < n by omega), decide_eq_true (show (i : Int) = k by omega)]; rfl
  · rw [decide_eq_false h, decide_eq_false (show ¬ (i : Int) = k by omega), Bool.and_false])
theorem mk_all {n : Nat} (hn : n ≤ 24) : (jI 1 <<< (jI n &&& 31)) - jI 1 = mk n (fun _ => true) := by
  have h : ∀ n, n < 25 → (jI 1 <<< (jI (n : Nat) &&& 31)) - jI 1 = mskN (fun _ => true) n := by decide +kernel
  exact h n (by omega)
/-! neighbours -/
def nb (w a b : Int) : Bool := decide ((a / w - b / w).natAbs + (a % w - b % w).natAbs = 1)
theorem nb_iff {w : Int} (w1 : 1 ≤ w) (w4 : w ≤ 4) {j i : Nat} : nb w j i = true ↔ (j + 1 = i ∧ (i : Int) % w ≠ 0) ∨ (j = i + 1 ∧ (j : Int) % w ≠ 0) ∨ (j : Int) + w = i ∨ (j : Int) = i + w := by
  unfold nb
  rw [decide_eq_true_eq]
  obtain rfl | rfl | rfl | rfl : w = 1 ∨ w = 2 ∨ w = 3 ∨ w = 4 := by omega
  all_goals omega
theorem nb_sym (w a b : Int) : nb w a b = nb w b a := by
  unfold nb
  rw [decide_eq_decide]
  omega
/-- what a chamber's cells hold: w columns, n cells -/
def chG (J : zJ) (c n : Nat) (w : Int) : Prop := n ≤ 24 ∧ 1 ≤ w ∧ w ≤ 4 ∧ J c 2 = w ∧ jI (J c 5) = mk n (fun _ => true) ∧ jI (J c 6) = mk n (fun k => decide (k % w = 0))
section
variable {W : zW} {J : zJ} {Q : zO → zI → Prop}
theorem mk_around {n : Nat} (hn : n ≤ 24) {w : Int} (w1 : 1 ≤ w) (w4 : w ≤ 4) (E : Int → Bool) :
    (((((mk n E &&& ((mk n (fun k => decide (k % w = 0)) <<< (jI (w - 1) &&& 31)) ^^^ jI (-1))) <<< (jI 1 &&& 31)) ||| jushr (mk n E &&& (mk n (fun k => decide (k % w = 0)) ^^^ jI (-1))) (jI 1)) ||| (mk n E <<< (jI w &&& 31))) ||| jushr (mk n E) (jI w)) &&& mk n (fun _ => true) = mk n (fun k => nbr (nb w) n E k) := by
  refine mk_ext (by omega) (fun i hi => ?_)
  rw [b_and, b_mk (by omega) _ hi, Bool.and_true, Bool.and_comm]
  by_cases hin : i < n
  · rw [decide_eq_true hin, Bool.true_and, Bool.true_and]
    have hR : nbr (nb w) n E i = true ↔ (1 ≤ i ∧ (i : Int) % w ≠ 0 ∧ E ((i - 1 : Nat) : Int) = true) ∨ (i + 1 < n ∧ ((i + 1 : Nat) : Int) % w ≠ 0 ∧ E ((i + 1 : Nat) : Int) = true) ∨ (w.toNat ≤ i ∧ E ((i - w.toNat : Nat) : Int) = true) ∨ (i + w.toNat < n ∧ E ((i + w.toNat : Nat) : Int) = true) := by
      unfold nbr
      rw [zAnyB_iff]
      constructor
      · rintro ⟨j, hj, h⟩
        rw [Bool.and_eq_true, nb_iff w1 w4] at h
        obtain ⟨hE, h | h | h | h⟩ := h
        · exact Or.inl ⟨by omega, h.2, by rw [show i - 1 = j by omega]; exact hE⟩
        · exact Or.inr (Or.inl ⟨by omega, by rw [← h.1]; exact h.2, by rw [← h.1]; exact hE⟩)
        · exact Or.inr (Or.inr (Or.inl ⟨by omega, by rw [show i - w.toNat = j by omega]; exact hE⟩))
        · exact Or.inr (Or.inr (Or.inr ⟨by omega, by rw [show i + w.toNat = j by omega]; exact hE⟩))
      · rintro (⟨h1, h2, h3⟩ | ⟨h1, h2, h3⟩ | ⟨h1, h3⟩ | ⟨h1, h3⟩)
        · exact ⟨i - 1, by omega, by rw [Bool.and_eq_true, nb_iff w1 w4]; exact ⟨h3, Or.inl ⟨by omega, h2⟩⟩⟩
        · exact ⟨i + 1, by omega, by rw [Bool.and_eq_true, nb_iff w1 w4]; exact ⟨h3, Or.inr (Or.inl ⟨by omega, h2⟩)⟩⟩
        · exact ⟨i - w.toNat, by omega, by rw [Bool.and_eq_true, nb_iff w1 w4]; exact ⟨h3, Or.inr (Or.inr (Or.inl (by omega)))⟩⟩
        · exact ⟨i + w.toNat, by omega, by rw [Bool.and_eq_true, nb_iff w1 w4]; exact ⟨h3, Or.inr (Or.inr (Or.inr (by omega)))⟩⟩
    rw [Bool.eq_iff_iff, hR]
    rw [b_or, b_or, b_or, b_shlj (by omega) (by omega) _ hi, b_ushj (by omega) (by omega), b_shlj (by omega) (by omega) _ hi, b_ushj (by omega) (by omega)]
    have hs : ∀ j : Nat, j < 32 → bt (mk n E &&& ((mk n (fun k => decide (k % w = 0)) <<< (jI (w - 1) &&& 31)) ^^^ jI (-1))) j = (decide (j < n) && E j && !(decide ((w - 1).toNat ≤ j) && (decide (j - (w - 1).toNat < n) && decide (((j - (w - 1).toNat : Nat) : Int) % w = 0)))) := by
      intro j hj
      rw [b_and, b_xor, b_shlj (by omega) (by omega) _ hj, show jI (-1) = -1 from rfl, b_m1 j hj, b_mk (by omega) _ hj, b_mk (by omega) _ (show j - (w - 1).toNat < 32 by omega), Bool.xor_true]
    have hs2 : ∀ j : Nat, j < 32 → bt (mk n E &&& (mk n (fun k => decide (k % w = 0)) ^^^ jI (-1))) j = (decide (j < n) && E j && !(decide (j < n) && decide ((j : Int) % w = 0))) := by
      intro j hj
      rw [b_and, b_xor, show jI (-1) = -1 from rfl, b_m1 j hj, b_mk (by omega) _ hj, b_mk (by omega) _ hj, Bool.xor_true]
    have e1 : (1 : Int).toNat = 1 := rfl
    rw [e1, hs (i - 1) (by omega), b_mk (by omega) _ (show i - w.toNat < 32 by omega)]
    rw [show (1 + i) = i + 1 by omega, hs2 (i + 1) (by omega), Nat.add_comm w.toNat i]
    rw [b_mk (by omega) _ (show i + w.toNat < 32 by omega)]
    simp only [Bool.or_eq_true, Bool.and_eq_true, decide_eq_true_eq, Bool.not_eq_true', Bool.and_eq_false_iff, decide_eq_false_iff_not]
    obtain rfl | rfl | rfl | rfl : w = 1 ∨ w = 2 ∨ w = 3 ∨ w = 4 := by omega
    all_goals
      constructor
      · rintro (((h | h) | h) | h)
        · exact Or.inl ⟨by omega, by omega, h.2.1.2⟩
        · exact Or.inr (Or.inl ⟨by omega, by omega, h.1.2⟩)
        · exact Or.inr (Or.inr (Or.inl ⟨by omega, h.2.2⟩))
        · exact Or.inr (Or.inr (Or.inr ⟨by omega, h.2⟩))
      · rintro (h | h | h | h)
        · exact Or.inl (Or.inl (Or.inl ⟨by omega, ⟨by omega, h.2.2⟩, by omega⟩))
        · exact Or.inl (Or.inl (Or.inr ⟨⟨by omega, h.2.2⟩, by omega⟩))
        · exact Or.inl (Or.inr ⟨by omega, by omega, h.2⟩)
        · exact Or.inr ⟨by omega, h.2⟩
  · rw [decide_eq_false hin, Bool.false_and, Bool.false_and]
theorem sp_3 {c n : Nat} {w : Int} (hc : zChb c) (hG : chG J c n w) (E : Int → Bool) : wz W 3 0 [.ref c, .int (mk n E), .float 0, .float 0] [] (jm J) Q = Q (.inl (some (.int (mk n (fun k => nbr (nb w) n E k))))) (jm J) := by
  obtain ⟨hn, w1, w4, g2, g5, g6⟩ := hG
  rw [sg_3_0 W _ Q c _ hc]
  simp only [jm_l, g2, g5, g6, jI_sub]
  rw [mk_around hn w1 w4]
/-- what is reached through open cells in k steps -/
def flo (adj : Int → Int → Bool) (n : Nat) (O : Int → Bool) (F : Int → Bool) : Nat → Int → Bool
  | 0 => F
  | k + 1 => fun j => flo adj n O F k j || (nbr adj n (flo adj n O F k) j && O j)
theorem sp_4 {c n : Nat} {w : Int} (hc : zChb c) (hG : chG J c n w) (F O : Int → Bool) : wz W 4 0 [.ref c, .int (mk n F), .int (mk n O), .float 0, .float 0] [] (jm J) Q = Q (.inl (some (.int (mk n (flo (nb w) n O F 24))))) (jm J) := by
  have hn := hG.1
  rw [sg_4_0 W _ Q c _ _ hc]
  have key := zloop (f := fun k => wz W 4 5 [.ref c, .int (mk n F), .int (mk n O), .int (mk n (flo (nb w) n O F k)), .int (jI k)] [] (jm J) Q) 24 (fun k hk => by
    try simp only
    rw [sg_4_5 W _ Q c _ _ _ _ hc, if_neg (by rw [jI_le (by omega) (by omega) (by omega) (by omega)]; omega), sp_3 hc hG]
    simp only [zk_l, zk_r, Option.toList_some, Option.toList_none, List.cons_append, List.nil_append, zrokB, zrokB0, zrokB1, zrokJ0, zrokJ1, and_true, true_and, and_self, if_true, if_false, b2_0, b2_1, b2_not, ite_self]
    rw [sg_4_18 W _ Q c _ _ _ _ _ _ hc, mk_and (by omega), mk_or (by omega), jI_add]
    rfl)
  refine Eq.trans key ?_
  rw [sg_4_5 W _ Q c _ _ _ _ hc, if_pos (by decide)]
theorem sp_5 {c n : Nat} {w : Int} (hc : zChb c) (hG : chG J c n w) (F O : Int → Bool) {cell : Int} (h0 : 0 ≤ cell) (h1 : cell < n) : wz W 5 0 [.ref c, .int (jI cell), .int (mk n F), .int (mk n O), .float 0, .float 0, .float 0] [] (jm J) Q = Q (oI (wl (nb w) n F O cell)) (jm J) := by
  have hn := hG.1
  rw [sg_5_0 W _ Q c _ _ _ hc, mk_and (by omega)]
  have hend : ∀ (m : Nat), m < 24 → (lev (nb w) n F O m).1 cell = true → wz W 5 12 [.ref c, .int (jI cell), .int (mk n F), .int (mk n O), .int (mk n (lev (nb w) n F O m).1), .int (mk n (lev (nb w) n F O m).2), .int (jI (m + 1))] [] (jm J) Q = Q (oI (m + 1)) (jm J) := by
    intro m hm hp
    rw [sg_5_12 W _ Q c _ _ _ _ _ _ hc, if_neg (by rw [jI_lt (by omega) (by omega) (by omega) (by omega)]; omega), sp_167 h0 (by omega), mk_bt (by omega) _ h0 h1, hp]
    simp only [zk_l, zk_r, Option.toList_some, Option.toList_none, List.cons_append, List.nil_append, zrokB, zrokB0, zrokB1, zrokJ0, zrokJ1, and_true, true_and, and_self, if_true, if_false, b2_0, b2_1, b2_not, ite_self]
    rw [sg_5_25 W _ Q c _ _ _ _ _ _ _ hc, if_neg (by decide)]
  have key := zloops (f := fun k => wz W 5 12 [.ref c, .int (jI cell), .int (mk n F), .int (mk n O), .int (mk n (lev (nb w) n F O k).1), .int (mk n (lev (nb w) n F O k).2), .int (jI (k + 1))] [] (jm J) Q) (fun k => (lev (nb w) n F O k).1 cell) 24 (fun k hk hp => by
    try simp only at hp ⊢
    rw [sg_5_12 W _ Q c _ _ _ _ _ _ hc, if_neg (by rw [jI_lt (by omega) (by omega) (by omega) (by omega)]; omega), sp_167 h0 (by omega), mk_bt (by omega) _ h0 h1, hp]
    simp only [zk_l, zk_r, Option.toList_some, Option.toList_none, List.cons_append, List.nil_append, zrokB, zrokB0, zrokB1, zrokJ0, zrokJ1, and_true, true_and, and_self, if_true, if_false, b2_0, b2_1, b2_not, ite_self]
    rw [sg_5_25 W _ Q c _ _ _ _ _ _ _ hc, if_pos (by decide), sp_3 hc hG]
    simp only [zk_l, zk_r, Option.toList_some, Option.toList_none, List.cons_append, List.nil_append, zrokB, zrokB0, zrokB1, zrokJ0, zrokJ1, and_true, true_and, and_self, if_true, if_false, b2_0, b2_1, b2_not, ite_self]
    rw [sg_5_37 W _ Q c _ _ _ _ _ _ _ hc, mk_and (by omega), mk_dif (by omega), mk_or (by omega), jI_add]
    rfl)
  refine Eq.trans key ?_
  have hle := zfst_le (fun k => (lev (nb w) n F O k).1 cell) 24
  have hy := zfst_yes (fun k => (lev (nb w) n F O k).1 cell) 24
  unfold wl
  by_cases hm : zfst (fun k => (lev (nb w) n F O k).1 cell) 24 < 24
  · rw [if_pos hm]
    exact hend _ hm (hy hm)
  · rw [if_neg hm]
    have e : zfst (fun k => (lev (nb w) n F O k).1 cell) 24 = 24 := by omega
    simp only [e]
    rw [sg_5_12 W _ Q c _ _ _ _ _ _ hc, if_pos (by decide)]
/-- the cells of the last level that holds a wanted one -/
def farE (adj : Int → Int → Bool) (n : Nat) (D O Wn : Int → Bool) : Nat → Int → Bool
  | 0 => fun _ => false
  | i + 1 => if zAnyB (fun k => (lev adj n D O i).1 (k : Int) && Wn (k : Int)) n = true then (fun k => (lev adj n D O i).1 k && Wn k) else farE adj n D O Wn i
def farC (adj : Int → Int → Bool) (n : Nat) (D O Wn : Int → Bool) : Int := if zfst (fun k => decide (k < n) && farE adj n D O Wn 24 (k : Int)) 24 < 24 then (zfst (fun k => decide (k < n) && farE adj n D O Wn 24 (k : Int)) 24 : Int) else -1
theorem sp_6 {c n : Nat} {w : Int} (hc : zChb c) (hG : chG J c n w) {D : Int → Bool} (hD : jI (J c 4) = mk n D) (O Wn : Int → Bool) : wz W 6 0 [.ref c, .int (mk n O), .int (mk n Wn), .float 0, .float 0, .float 0, .float 0] [] (jm J) Q = Q (oI (farC (nb w) n D O Wn)) (jm J) := by
  have hn := hG.1
  rw [sg_6_0 W _ Q c _ _ hc, show jm J c 4 = jI (J c 4) from rfl, hD, mk_and (by omega)]
  have key := zloop (f := fun k => wz W 6 16 [.ref c, .int (mk n O), .int (mk n Wn), .int (mk n (lev (nb w) n D O k).1), .int (mk n (lev (nb w) n D O k).2), .int (mk n (farE (nb w) n D O Wn k)), .int (jI k)] [] (jm J) Q) 24 (fun k hk => by
    try simp only
    have go : ∀ x : Int32, wz W 6 34 [.ref c, .int (mk n O), .int (mk n Wn), .int (mk n (lev (nb w) n D O k).1), .int (mk n (lev (nb w) n D O k).2), .int x, .int (jI k)] [] (jm J) Q = wz W 6 16 [.ref c, .int (mk n O), .int (mk n Wn), .int (mk n (lev (nb w) n D O (k + 1)).1), .int (mk n (lev (nb w) n D O (k + 1)).2), .int x, .int (jI (k + 1 : Nat))] [] (jm J) Q := by
      intro x
      rw [sg_6_34 W _ Q c _ _ _ _ _ _ hc, sp_3 hc hG]
      simp only [zk_l, zk_r, Option.toList_some, Option.toList_none, List.cons_append, List.nil_append, zrokB, zrokB0, zrokB1, zrokJ0, zrokJ1, and_true, true_and, and_self, if_true, if_false, b2_0, b2_1, b2_not, ite_self]
      rw [sg_6_39 W _ Q c _ _ _ _ _ _ _ hc, mk_and (by omega), mk_dif (by omega), mk_or (by omega), jI_add]
      rfl
    rw [sg_6_16 W _ Q c _ _ _ _ _ _ hc, if_neg (by rw [jI_le (by omega) (by omega) (by omega) (by omega)]; omega), mk_and (by omega)]
    rw [go, go]
    have e : farE (nb w) n D O Wn (k + 1) = if zAnyB (fun j => (lev (nb w) n D O k).1 (j : Int) && Wn (j : Int)) n = true then (fun j => (lev (nb w) n D O k).1 j && Wn j) else farE (nb w) n D O Wn k := rfl
    rw [e]
    simp only [mk_eq0 (show n ≤ 32 by omega)]
    cases zAnyB (fun j => (lev (nb w) n D O k).1 (j : Int) && Wn (j : Int)) n
    · simp only [if_true, if_false, Bool.false_eq_true]
    · simp only [if_true, if_false, Bool.true_eq_false])
  have e0 : mk n (farE (nb w) n D O Wn 0) = jI 0 := mk_0
  rw [e0] at key
  refine Eq.trans key ?_
  rw [sg_6_16 W _ Q c _ _ _ _ _ _ hc, if_pos (by decide)]
  have hb : ∀ k : Nat, k < 24 → bt (mk n (farE (nb w) n D O Wn 24)) (k : Int).toNat = (decide (k < n) && farE (nb w) n D O Wn 24 (k : Int)) := fun k hk => b_mk (by omega) _ (by omega)
  generalize mk n (lev (nb w) n D O 24).1 = x3
  generalize mk n (lev (nb w) n D O 24).2 = x4
  generalize hx5 : mk n (farE (nb w) n D O Wn 24) = x5
  rw [hx5] at hb
  unfold farC
  have key2 := zloops (f := fun k => wz W 6 62 [.ref c, .int (mk n O), .int (mk n Wn), .int x3, .int x4, .int x5, .int (jI k)] [] (jm J) Q) (fun k => decide (k < n) && farE (nb w) n D O Wn 24 (k : Int)) 24 (fun k hk hp => by
    try simp only at hp ⊢
    rw [sg_6_62 W _ Q c _ _ _ _ _ _ hc, if_neg (by rw [jI_le (by omega) (by omega) (by omega) (by omega)]; omega), sp_167 (by omega) (by omega), hb k hk, hp]
    simp only [zk_l, zk_r, Option.toList_some, Option.toList_none, List.cons_append, List.nil_append, zrokB, zrokB0, zrokB1, zrokJ0, zrokJ1, and_true, true_and, and_self, if_true, if_false, b2_0, b2_1, b2_not, ite_self]
    rw [sg_6_76 W _ Q c _ _ _ _ _ _ _ hc, if_pos (by decide), jI_add]
    rfl)
  refine Eq.trans key2 ?_
  have hle := zfst_le (fun k => decide (k < n) && farE (nb w) n D O Wn 24 (k : Int)) 24
  have hy := zfst_yes (fun k => decide (k < n) && farE (nb w) n D O Wn 24 (k : Int)) 24
  by_cases hm : zfst (fun k => decide (k < n) && farE (nb w) n D O Wn 24 (k : Int)) 24 < 24
  · rw [if_pos hm]
    have hp := hy hm
    generalize zfst (fun k => decide (k < n) && farE (nb w) n D O Wn 24 (k : Int)) 24 = k at *
    try simp only at hp
    rw [sg_6_62 W _ Q c _ _ _ _ _ _ hc, if_neg (by rw [jI_le (by omega) (by omega) (by omega) (by omega)]; omega), sp_167 (by omega) (by omega), hb k hm, hp]
    simp only [zk_l, zk_r, Option.toList_some, Option.toList_none, List.cons_append, List.nil_append, zrokB, zrokB0, zrokB1, zrokJ0, zrokJ1, and_true, true_and, and_self, if_true, if_false, b2_0, b2_1, b2_not, ite_self]
    rw [sg_6_76 W _ Q c _ _ _ _ _ _ _ hc, if_neg (by decide)]
  · rw [if_neg hm]
    have e : zfst (fun k => decide (k < n) && farE (nb w) n D O Wn 24 (k : Int)) 24 = 24 := by omega
    simp only [e]
    rw [sg_6_62 W _ Q c _ _ _ _ _ _ hc, if_pos (by decide)]
/-- what is reached over k blocked cells -/
def obR (adj : Int → Int → Bool) (n : Nat) (D O : Int → Bool) : Nat → Int → Bool
  | 0 => flo adj n O (fun k => D k && O k) 24
  | j + 1 => flo adj n O (fun k => obR adj n D O j k || (nbr adj n (obR adj n D O j) k || D k)) 24
def obC (adj : Int → Int → Bool) (n : Nat) (D O : Int → Bool) (cell : Int) : Int := if zfst (fun j => obR adj n D O j cell) 25 < 25 then (zfst (fun j => obR adj n D O j cell) 25 : Int) else -1
def obS (adj : Int → Int → Bool) (n : Nat) (D O : Int → Bool) : Nat → Int → Bool
  | 0 => fun k => D k && O k
  | j + 1 => fun k => obR adj n D O j k || (nbr adj n (obR adj n D O j) k || D k)
theorem obR_S (adj : Int → Int → Bool) (n : Nat) (D O : Int → Bool) (j : Nat) : obR adj n D O j = flo adj n O (obS adj n D O j) 24 := by cases j <;> rfl
theorem sp_7 {c n : Nat} {w : Int} (hc : zChb c) (hG : chG J c n w) {D : Int → Bool} (hD : jI (J c 4) = mk n D) (O : Int → Bool) {cell : Int} (h0 : 0 ≤ cell) (h1 : cell < n) :
    wz W 7 0 [.ref c, .int (mk n O), .int (jI cell), .float 0, .float 0, .float 0] [] (jm J) Q = Q (oI (obC (nb w) n D (fun k => O k || decide (k = cell)) cell)) (jm J) := by
  have hn := hG.1
  rw [sg_7_0 W _ Q c _ _ hc, show jm J c 4 = jI (J c 4) from rfl, hD, mk_one (by omega) h0 h1, mk_or (by omega)]
  generalize (fun k => O k || decide (k = cell)) = O'
  rw [mk_and (by omega)]
  have hrun : ∀ k : Nat, k < 25 → wz W 7 17 [.ref c, .int (mk n O), .int (jI cell), .int (mk n O'), .int (mk n (obS (nb w) n D O' k)), .int (jI k)] [] (jm J) Q = if obR (nb w) n D O' k cell = true then Q (oI k) (jm J) else wz W 7 17 [.ref c, .int (mk n O), .int (jI cell), .int (mk n O'), .int (mk n (obS (nb w) n D O' (k + 1))), .int (jI (k + 1 : Nat))] [] (jm J) Q := by
    intro k hk
    rw [sg_7_17 W _ Q c _ _ _ _ _ hc, if_neg (by rw [jI_lt (by omega) (by omega) (by omega) (by omega)]; omega), sp_4 hc hG, ← obR_S]
    simp only [zk_l, zk_r, Option.toList_some, Option.toList_none, List.cons_append, List.nil_append, zrokB, zrokB0, zrokB1, zrokJ0, zrokJ1, and_true, true_and, and_self, if_true, if_false, b2_0, b2_1, b2_not, ite_self]
    rw [sg_7_31 W _ Q c _ _ _ _ _ _ hc, sp_167 h0 (by omega), mk_bt (by omega) _ h0 h1]
    simp only [zk_l, zk_r, Option.toList_some, Option.toList_none, List.cons_append, List.nil_append, zrokB, zrokB0, zrokB1, zrokJ0, zrokJ1, and_true, true_and, and_self, if_true, if_false, b2_0, b2_1, b2_not, ite_self]
    rw [sg_7_39 W _ Q c _ _ _ _ _ _ hc]
    cases obR (nb w) n D O' k cell
    · rw [if_pos (by decide), sp_3 hc hG]
      simp only [zk_l, zk_r, Option.toList_some, Option.toList_none, List.cons_append, List.nil_append, zrokB, zrokB0, zrokB1, zrokJ0, zrokJ1, and_true, true_and, and_self, if_true, if_false, b2_0, b2_1, b2_not, ite_self]
      rw [sg_7_53 W _ Q c _ _ _ _ _ _ _ hc, show jm J c 4 = jI (J c 4) from rfl, hD, mk_or (by omega), mk_or (by omega), jI_add, if_neg (by decide)]
      rfl
    · rw [if_neg (by decide), if_pos rfl]
  have key := zloops (f := fun k => wz W 7 17 [.ref c, .int (mk n O), .int (jI cell), .int (mk n O'), .int (mk n (obS (nb w) n D O' k)), .int (jI k)] [] (jm J) Q) (fun k => obR (nb w) n D O' k cell) 25 (fun k hk hp => by
    try simp only at hp ⊢
    rw [hrun k hk, hp, if_neg (by decide)])
  refine Eq.trans key ?_
  have hle := zfst_le (fun k => obR (nb w) n D O' k cell) 25
  have hy := zfst_yes (fun k => obR (nb w) n D O' k cell) 25
  unfold obC
  by_cases hm : zfst (fun k => obR (nb w) n D O' k cell) 25 < 25
  · rw [if_pos hm, hrun _ hm, if_pos (hy hm)]
  · rw [if_neg hm]
    have e : zfst (fun k => obR (nb w) n D O' k cell) 25 = 25 := by omega
    simp only [e]
    rw [sg_7_17 W _ Q c _ _ _ _ _ hc, if_pos (by decide)]
end
