/-! ===== zones ===== -/
section
variable {W : zW} {J : zJ} {Q : zO → zI → Prop} {k : Int}
/-- the next zone's temperature above t, by the first n goods -/
def nxF (s : Int → Int) (t : Int) : Nat → Int
  | 0 => 99
  | n + 1 => if s (36 + 6 * (n : Int) + 1) ≤ t then nxF s t n else min (nxF s t n) (s (36 + 6 * (n : Int) + 2))
def nxZ (s : Int → Int) (t : Int) : Int := nxF s t (s 5).toNat
theorem nxF_or {s : Int → Int} (hG : okG s) {t : Int} : ∀ n : Nat, (n : Int) ≤ s 5 → (nxF s t n = 99 ∧ ∀ g : Nat, g < n → s (36 + 6 * (g : Int) + 1) ≤ t) ∨ (nxF s t n ≤ 20 ∧ -30 ≤ nxF s t n ∧ ∃ g : Nat, g < n ∧ t < s (36 + 6 * (g : Int) + 1) ∧ s (36 + 6 * (g : Int) + 2) = nxF s t n) := by
  intro n
  induction n with
  | zero => intro _; exact Or.inl ⟨rfl, fun g hg => by omega⟩
  | succ n ih =>
    intro hn
    obtain ⟨d1, d2, d3, -⟩ := hG n (by omega) (by omega)
    have ih := ih (by omega)
    unfold nxF
    by_cases f : s (36 + 6 * (n : Int) + 1) ≤ t
    · rw [if_pos f]
      rcases ih with ⟨h1, h2⟩ | ⟨h1, h0, g, h2, h3, h4⟩
      · refine Or.inl ⟨h1, fun g hg => ?_⟩
        by_cases e : g = n
        · rw [e]; exact f
        · exact h2 g (by omega)
      · exact Or.inr ⟨h1, h0, g, by omega, h3, h4⟩
    · rw [if_neg f]
      right
      rcases ih with ⟨h1, h2⟩ | ⟨h1, h0, g, h2, h3, h4⟩
      · exact ⟨by omega, by omega, n, by omega, by omega, by omega⟩
      · by_cases c : nxF s t n ≤ s (36 + 6 * (n : Int) + 2)
        · exact ⟨by omega, by omega, g, by omega, h3, by omega⟩
        · exact ⟨by omega, by omega, n, by omega, by omega, by omega⟩
theorem nxF_lo {s : Int → Int} (hG : okG s) {t u : Int} (ht : t < -30) (hu : u < -30) : ∀ n : Nat, (n : Int) ≤ s 5 → nxF s t n = nxF s u n := by
  intro n
  induction n with
  | zero => intro _; rfl
  | succ n ih =>
    intro hn
    obtain ⟨d1, d2, d3, -⟩ := hG n (by omega) (by omega)
    unfold nxF
    rw [ih (by omega), if_neg (by omega), if_neg (by omega)]
/-- the temperatures of the zones -/
def zt (s : Int → Int) : Nat → Int
  | 0 => nxZ s (-31)
  | n + 1 => nxZ s (zt s n)
def cG (s : Int → Int) (t : Int) : Nat := cntB (fun g => decide (t < s (36 + 6 * (g : Int) + 1))) (s 5).toNat
theorem cntB_pos {p : Nat → Bool} : ∀ (n m : Nat), m < n → p m = true → 1 ≤ cntB p n := by
  intro n
  induction n with
  | zero => intro m h; omega
  | succ n ih =>
    intro m h hp
    rw [cnt_step]
    by_cases e : m = n
    · rw [← e, if_pos hp]; omega
    · have := ih m (by omega) hp
      omega
theorem cG_dn {s : Int → Int} (hG : okG s) {t : Int} {g : Nat} (hg : g < (s 5).toNat) (h : t < s (36 + 6 * (g : Int) + 1)) : cG s (s (36 + 6 * (g : Int) + 2)) + 1 ≤ cG s t := by
  obtain ⟨d1, d2, d3, -⟩ := hG g (by omega) (by omega)
  unfold cG
  rw [cntB_df (p := fun g : Nat => decide (t < s (36 + 6 * (g : Int) + 1))) (q := fun j : Nat => decide (s (36 + 6 * (g : Int) + 2) < s (36 + 6 * (j : Int) + 1))) _ (fun i hi hq => by
    have := of_decide_eq_true hq
    exact decide_eq_true (by omega))]
  have := cntB_pos (p := fun i : Nat => decide (t < s (36 + 6 * (i : Int) + 1)) && !(decide (s (36 + 6 * (g : Int) + 2) < s (36 + 6 * (i : Int) + 1)))) (s 5).toNat g hg (by
    try simp only
    rw [decide_eq_true h, decide_eq_false (by omega)]
    rfl)
  omega
theorem zt_end {s : Int → Int} (hG : okG s) : ∀ c : Nat, zt s c = 99 ∨ (cG s (zt s c) + c + 1 ≤ (s 5).toNat ∧ -30 ≤ zt s c ∧ zt s c ≤ 20) := by
  intro c
  induction c with
  | zero =>
    by_cases h5 : 0 ≤ s 5
    · rcases nxF_or hG (t := -31) (s 5).toNat (by omega) with ⟨h1, -⟩ | ⟨h1, h0, g, h2, h3, h4⟩
      · exact Or.inl h1
      · right
        have := cG_dn hG h2 h3
        have hc := cntB_le (fun g : Nat => decide (-31 < s (36 + 6 * (g : Int) + 1))) (s 5).toNat
        have hc' : cG s (-31) ≤ (s 5).toNat := hc
        have hz : zt s 0 = nxF s (-31) (s 5).toNat := rfl
        rw [hz, ← h4]
        rw [← h4] at h0 h1
        exact ⟨by omega, h0, h1⟩
    · left
      show nxF s (-31) (s 5).toNat = 99
      rw [show (s 5).toNat = 0 by omega]
      rfl
  | succ c ih =>
    have hz : zt s (c + 1) = nxF s (zt s c) (s 5).toNat := rfl
    by_cases h5 : 0 ≤ s 5
    · rcases nxF_or hG (t := zt s c) (s 5).toNat (by omega) with ⟨h1, -⟩ | ⟨h1, h0, g, h2, h3, h4⟩
      · exact Or.inl h1
      · right
        have := cG_dn hG h2 h3
        rcases ih with ih | ⟨ih, -⟩
        · obtain ⟨d1, d2, d3, -⟩ := hG g (by omega) (by omega)
          omega
        · rw [hz, ← h4]
          rw [← h4] at h0 h1
          exact ⟨by omega, h0, h1⟩
    · left
      rw [hz, show (s 5).toNat = 0 by omega]
      rfl
theorem zt_G {s : Int → Int} (hG : okG s) : zt s (s 5).toNat = 99 := by
  rcases zt_end hG (s 5).toNat with h | ⟨h, -⟩
  · exact h
  · omega
/-- how many zones: the first number from c on with no zone -/
def znN (s : Int → Int) : Nat := zfst (fun c => decide (zt s c = 99)) (s 5).toNat
theorem zt_up {s : Int → Int} (hG : okG s) {c : Nat} (h : zt s c = 99) : ∀ d : Nat, zt s (c + d) = 99 := by
  intro d
  induction d with
  | zero => exact h
  | succ d ih =>
    have hz : zt s (c + (d + 1)) = nxF s (zt s (c + d)) (s 5).toNat := rfl
    rw [hz, ih]
    by_cases h5 : 0 ≤ s 5
    · rcases nxF_or hG (t := 99) (s 5).toNat (by omega) with ⟨h1, -⟩ | ⟨h1, h0, g, h2, h3, h4⟩
      · exact h1
      · obtain ⟨d1, d2, d3, -⟩ := hG g (by omega) (by omega)
        omega
    · rw [show (s 5).toNat = 0 by omega]
      rfl
theorem znN_lt {s : Int → Int} (hG : okG s) (h5 : 0 ≤ s 5) (c : Nat) : zt s c ≠ 99 ↔ c < znN s := by
  unfold znN
  have hle := zfst_le (fun c => decide (zt s c = 99)) (s 5).toNat
  have hy := zfst_yes (fun c => decide (zt s c = 99)) (s 5).toNat
  have hno := zfst_no (fun c => decide (zt s c = 99)) (s 5).toNat
  constructor
  · intro h
    apply Classical.byContradiction
    intro hc
    have e : zt s (zfst (fun c => decide (zt s c = 99)) (s 5).toNat) = 99 := by
      by_cases q : zfst (fun c => decide (zt s c = 99)) (s 5).toNat < (s 5).toNat
      · exact of_decide_eq_true (hy q)
      · rw [show zfst (fun c => decide (zt s c = 99)) (s 5).toNat = (s 5).toNat by omega]
        exact zt_G hG
    have := zt_up hG e (c - zfst (fun c => decide (zt s c = 99)) (s 5).toNat)
    rw [show zfst (fun c => decide (zt s c = 99)) (s 5).toNat + (c - zfst (fun c => decide (zt s c = 99)) (s 5).toNat) = c by omega] at this
    exact h this
  · intro h
    exact of_decide_eq_false (hno c h)
theorem znN_le (s : Int → Int) : znN s ≤ (s 5).toNat := zfst_le _ _
/-- the class: is there a next one; which -/
theorem sp_58 {s : Int → Int} (hU : RU J 5 s) (hK : okK s) {t : Int} (t0 : -100 ≤ t) (t1 : t ≤ 100) : wz W 58 0 [.ref 5, .int (jI t), .float 0] [] (jm J) Q = Q (oB (decide (nxZ s t ≠ 99))) (jm J) := by
  obtain ⟨b1, b2x, b3, b4, b5, b6, b7, b8, b9, b10, b11, b12⟩ := hK.1
  have hG := hK.2.2.1
  have hu0 := hU.1
  have step : ∀ i : Nat, i < (s 5).toNat → wz W 58 2 [.ref 5, .int (jI t), .int (jI i)] [] (jm J) Q = if t < s (36 + 6 * (i : Int) + 1) then Q (oB true) (jm J) else wz W 58 2 [.ref 5, .int (jI t), .int (jI (i + 1 : Nat))] [] (jm J) Q := by
    intro i hi
    obtain ⟨g0, g1, g2, g3, g4, -⟩ := RU_g hU hK (g := i) (by omega) (by omega)
    obtain ⟨d1, d2, d3, -⟩ := hG i (by omega) (by omega)
    rw [sg_58_2 (hs := zStp_5)]
    simp (disch := first | assumption | omega) only [hu0, jI_cl, jm_n, jz_n, i_lit, i_c0, i_c1, Int.toNat_of_nonneg, Int.toNat_natCast, jrow_same, jrow_ne, jrow_jrow, sset_eq, sset_ne]
    rw [if_neg (by rw [jI_le (by omega) (by omega) (by omega) (by omega)]; omega), sp_52 zStp_5 (by omega) g0]
    simp only [zk_l, zk_r, Option.toList_some, Option.toList_none, List.cons_append, List.nil_append, zrokB, zrokB0, zrokB1, zrokJ0, zrokJ1, and_true, true_and, and_self, if_true, if_false, b2_0, b2_1, b2_not, ite_self]
    rw [sg_58_15 (hs := zStp_5) (hqt0 := g1), show jm J (5 + 13 + (i : Int).toNat) 2 = jI (J (5 + 13 + (i : Int).toNat) 2) from rfl, g4]
    by_cases f : t < s (36 + 6 * (i : Int) + 1)
    · rw [if_pos f, if_neg (by rw [jI_le (by omega) (by omega) (by omega) (by omega)]; omega)]
      rfl
    · rw [if_neg f, if_pos (by rw [jI_le (by omega) (by omega) (by omega) (by omega)]; omega), jI_add]
      rfl
  have key := zloops (f := fun i => wz W 58 2 [.ref 5, .int (jI t), .int (jI i)] [] (jm J) Q) (fun i => decide (t < s (36 + 6 * (i : Int) + 1))) (s 5).toNat (fun i hi hp => by
    try simp only at hp ⊢
    rw [step i hi, if_neg (of_decide_eq_false hp)])
  rw [sg_58_0 (hs := zStp_5)]
  refine Eq.trans key ?_
  have hle := zfst_le (fun i : Nat => decide (t < s (36 + 6 * (i : Int) + 1))) (s 5).toNat
  have hy := zfst_yes (fun i : Nat => decide (t < s (36 + 6 * (i : Int) + 1))) (s 5).toNat
  have hno := zfst_no (fun i : Nat => decide (t < s (36 + 6 * (i : Int) + 1))) (s 5).toNat
  have hor := nxF_or hG (t := t) (s 5).toNat (by omega)
  have hz : nxZ s t = nxF s t (s 5).toNat := rfl
  generalize zfst (fun i : Nat => decide (t < s (36 + 6 * (i : Int) + 1))) (s 5).toNat = m at *
  by_cases hm : m < (s 5).toNat
  · have hy := of_decide_eq_true (hy hm)
    rw [step m hm, if_pos hy, decide_eq_true]
    rcases hor with ⟨h1, h2⟩ | ⟨h1, h2, -⟩
    · have := h2 m hm; omega
    · omega
  · obtain rfl : m = (s 5).toNat := by omega
    rw [sg_58_2 (hs := zStp_5)]
    simp (disch := first | assumption | omega) only [hu0, jI_cl, jm_n, jz_n, i_lit, i_c0, i_c1, Int.toNat_of_nonneg, Int.toNat_natCast, jrow_same, jrow_ne, jrow_jrow, sset_eq, sset_ne]
    rw [if_pos (by rw [jI_le (by omega) (by omega) (by omega) (by omega)]; omega), decide_eq_false]
    · rfl
    · rcases hor with ⟨h1, h2⟩ | ⟨h1, h2, g, h3, h4, -⟩
      · omega
      · have := of_decide_eq_false (hno g h3); omega
theorem sp_59 {s : Int → Int} (hU : RU J 5 s) (hK : okK s) {t : Int} (t0 : -100 ≤ t) (t1 : t ≤ 100) : wz W 59 0 [.ref 5, .int (jI t), .float 0, .float 0] [] (jm J) Q = Q (oI (min 20 (nxZ s t))) (jm J) := by
  obtain ⟨b1, b2x, b3, b4, b5, b6, b7, b8, b9, b10, b11, b12⟩ := hK.1
  have hG := hK.2.2.1
  have hu0 := hU.1
  have key := zloop (f := fun i => wz W 59 5 [.ref 5, .int (jI t), .int (jI (min 20 (nxF s t i))), .int (jI i)] [] (jm J) Q) (s 5).toNat (fun i hi => by
    try simp only
    obtain ⟨g0, g1, g2, g3, g4, g5, -⟩ := RU_g hU hK (g := i) (by omega) (by omega)
    obtain ⟨d1, d2, d3, -⟩ := hG i (by omega) (by omega)
    have hor := nxF_or hG (t := t) i (by omega)
    have hb : -30 ≤ nxF s t i ∧ nxF s t i ≤ 99 := by rcases hor with ⟨h1, -⟩ | ⟨h1, h2, -⟩ <;> omega
    clear hor
    rw [sg_59_5 (hs := zStp_5)]
    simp (disch := first | assumption | omega) only [hu0, jI_cl, jm_n, jz_n, i_lit, i_c0, i_c1, Int.toNat_of_nonneg, Int.toNat_natCast, jrow_same, jrow_ne, jrow_jrow, sset_eq, sset_ne]
    rw [if_neg (by rw [jI_le (by omega) (by omega) (by omega) (by omega)]; omega), sp_52 zStp_5 (by omega) g0]
    simp only [zk_l, zk_r, Option.toList_some, Option.toList_none, List.cons_append, List.nil_append, zrokB, zrokB0, zrokB1, zrokJ0, zrokJ1, and_true, true_and, and_self, if_true, if_false, b2_0, b2_1, b2_not, ite_self]
    rw [sg_59_18 (hs := zStp_5) (hqt0 := g1), show jm J (5 + 13 + (i : Int).toNat) 2 = jI (J (5 + 13 + (i : Int).toNat) 2) from rfl, g4]
    by_cases f : s (36 + 6 * (i : Int) + 1) ≤ t
    · have e : nxF s t (i + 1) = nxF s t i := by show (if _ then _ else _) = _; rw [if_pos f]
      rw [if_pos (by rw [jI_le (by omega) (by omega) (by omega) (by omega)]; omega), sg_59_38 (hs := zStp_5), jI_add, e]
      rfl
    · have e : nxF s t (i + 1) = min (nxF s t i) (s (36 + 6 * (i : Int) + 2)) := by show (if _ then _ else _) = _; rw [if_neg f]
      rw [if_neg (by rw [jI_le (by omega) (by omega) (by omega) (by omega)]; omega), sp_52 zStp_5 (by omega) g0]
      simp only [zk_l, zk_r, Option.toList_some, Option.toList_none, List.cons_append, List.nil_append, zrokB, zrokB0, zrokB1, zrokJ0, zrokJ1, and_true, true_and, and_self, if_true, if_false, b2_0, b2_1, b2_not, ite_self]
      rw [sg_59_31 (hs := zStp_5) (hqt1 := g1), sg_59_38 (hs := zStp_5), show jm J (5 + 13 + (i : Int).toNat) 3 = jI (J (5 + 13 + (i : Int).toNat) 3) from rfl, g5, jmin_j (by omega) (by omega) (by omega) (by omega), jI_add, e, show min (min 20 (nxF s t i)) (s (36 + 6 * (i : Int) + 2)) = min 20 (min (nxF s t i) (s (36 + 6 * (i : Int) + 2))) by omega]
      rfl)
  rw [sg_59_0 (hs := zStp_5)]
  refine Eq.trans key ?_
  rw [sg_59_5 (hs := zStp_5)]
  simp (disch := first | assumption | omega) only [hu0, jI_cl, jm_n, jz_n, i_lit, i_c0, i_c1, Int.toNat_of_nonneg, Int.toNat_natCast, jrow_same, jrow_ne, jrow_jrow, sset_eq, sset_ne]
  rw [if_pos (by rw [jI_le (by omega) (by omega) (by omega) (by omega)]; omega)]
  rfl
/-- the reference's next one -/
theorem sp_285 (hK : okK (J 355)) {t : Int} (t0 : -100 ≤ t) (t1 : t ≤ 100) : wz W 285 0 [.ref 353, .int (jI t), .float 0, .float 0] [] (jm J) Q = Q (oI (nxZ (J 355) t)) (jm J) := by
  obtain ⟨b1, b2x, b3, b4, b5, b6, b7, b8, b9, b10, b11, b12⟩ := hK.1
  have hG := hK.2.2.1
  have key := zloop (f := fun i => wz W 285 5 [.ref 353, .int (jI t), .int (jI (nxF (J 355) t i)), .int (jI i)] [] (jm J) Q) (J 355 5).toNat (fun i hi => by
    try simp only
    obtain ⟨d1, d2, d3, -⟩ := hG i (by omega) (by omega)
    have hor := nxF_or hG (t := t) i (by omega)
    have hb : -30 ≤ nxF (J 355) t i ∧ nxF (J 355) t i ≤ 99 := by rcases hor with ⟨h1, -⟩ | ⟨h1, h2, -⟩ <;> omega
    clear hor
    rw [sg_285_5]
    simp (disch := first | assumption | omega) only [zk_l, zk_r, Option.toList_some, Option.toList_none, List.cons_append, List.nil_append, zrokB, zrokB0, zrokB1, zrokJ0, zrokJ1, and_true, true_and, and_self, if_true, if_false, b2_0, b2_1, b2_not, ite_self, Int.add_zero, jI_nat, jI_add, jI_sub, jI_mul, jI_neg, jI_lt, jI_le, jI_eq, jI_lt0, jI_0lt, jI_le0, jI_0le, jI_eq0, jI_in, jI_dv, i_mod, jI_cl, jm_n, jz_n, i_lit, i_c0, i_c1, Int.toNat_of_nonneg, Int.toNat_natCast, jrow_same, jrow_ne, jrow_jrow, sset_eq, sset_ne]
    rw [if_neg (by omega), sp_220 (c := (i : Int)) (k := 1) (by omega) (by omega) (by omega)]
    simp only [zk_l, zk_r, Option.toList_some, Option.toList_none, List.cons_append, List.nil_append, zrokB, zrokB0, zrokB1, zrokJ0, zrokJ1, and_true, true_and, and_self, if_true, if_false, b2_0, b2_1, b2_not, ite_self]
    rw [sg_285_21]
    by_cases f : J 355 (36 + 6 * (i : Int) + 1) ≤ t
    · have e : nxF (J 355) t (i + 1) = nxF (J 355) t i := by show (if _ then _ else _) = _; rw [if_pos f]
      rw [if_pos (by rw [jI_le (by omega) (by omega) (by omega) (by omega)]; omega), sg_285_39, jI_add, e]
      rfl
    · have e : nxF (J 355) t (i + 1) = min (nxF (J 355) t i) (J 355 (36 + 6 * (i : Int) + 2)) := by show (if _ then _ else _) = _; rw [if_neg f]
      rw [if_neg (by rw [jI_le (by omega) (by omega) (by omega) (by omega)]; omega), sp_220 (c := (i : Int)) (k := 2) (by omega) (by omega) (by omega)]
      simp only [zk_l, zk_r, Option.toList_some, Option.toList_none, List.cons_append, List.nil_append, zrokB, zrokB0, zrokB1, zrokJ0, zrokJ1, and_true, true_and, and_self, if_true, if_false, b2_0, b2_1, b2_not, ite_self]
      rw [sg_285_32, sg_285_39, jmin_j (by omega) (by omega) (by omega) (by omega), jI_add, e]
      rfl)
  rw [sg_285_0]
  refine Eq.trans key ?_
  rw [sg_285_5]
  simp (disch := first | assumption | omega) only [zk_l, zk_r, Option.toList_some, Option.toList_none, List.cons_append, List.nil_append, zrokB, zrokB0, zrokB1, zrokJ0, zrokJ1, and_true, true_and, and_self, if_true, if_false, b2_0, b2_1, b2_not, ite_self, Int.add_zero, jI_nat, jI_add, jI_sub, jI_mul, jI_neg, jI_lt, jI_le, jI_eq, jI_lt0, jI_0lt, jI_le0, jI_0le, jI_eq0, jI_in, jI_dv, i_mod, jI_cl, jm_n, jz_n, i_lit, i_c0, i_c1, Int.toNat_of_nonneg, Int.toNat_natCast, jrow_same, jrow_ne, jrow_jrow, sset_eq, sset_ne]
  rw [if_pos (by omega)]
  rfl
/-- the temperature after c zones -/
def ztB (s : Int → Int) (c : Nat) : Int := if c = 0 then -31 else zt s (c - 1)
theorem ztB_nx (s : Int → Int) (c : Nat) : nxZ s (ztB s c) = zt s c := by
  unfold ztB
  cases c with
  | zero => rfl
  | succ c => rw [if_neg (by omega), show c + 1 - 1 = c by omega]; rfl
theorem ztB_bd {s : Int → Int} (hG : okG s) (c : Nat) : -100 ≤ ztB s c ∧ ztB s c ≤ 100 := by
  unfold ztB
  split
  · omega
  · rcases zt_end hG (c - 1) with h | ⟨-, h⟩ <;> omega
theorem sp_127 {s : Int → Int} (hU : RU J 5 s) (hK : okK s) : wz W 127 0 [.ref 0, .float 0, .float 0] [] (jm J) Q = Q (oI (znN s)) (jm J) := by
  obtain ⟨b1, b2x, b3, b4, b5, b6, b7, b8, b9, b10, b11, b12⟩ := hK.1
  have hG := hK.2.2.1
  have hu0 := hU.1
  have step : ∀ c : Nat, c < (s 5).toNat → wz W 127 5 [.ref 0, .int (jI c), .int (jI (ztB s c))] [] (jm J) Q = if zt s c = 99 then Q (oI c) (jm J) else wz W 127 5 [.ref 0, .int (jI (c + 1 : Nat)), .int (jI (ztB s (c + 1)))] [] (jm J) Q := by
    intro c hc
    have hb := ztB_bd hG c
    rw [sg_127_5]
    simp (disch := first | assumption | omega) only [hu0, jI_cl, jm_n, jz_n, i_lit, i_c0, i_c1, Int.toNat_of_nonneg, Int.toNat_natCast, jrow_same, jrow_ne, jrow_jrow, sset_eq, sset_ne]
    rw [if_neg (by rw [jI_le (by omega) (by omega) (by omega) (by omega)]; omega), sp_58 hU hK hb.1 hb.2, ztB_nx]
    simp only [zk_l, zk_r, Option.toList_some, Option.toList_none, List.cons_append, List.nil_append, zrokB, zrokB0, zrokB1, zrokJ0, zrokJ1, and_true, true_and, and_self, if_true, if_false, b2_0, b2_1, b2_not, ite_self]
    rw [sg_127_24]
    by_cases f : zt s c = 99
    · rw [if_pos f, decide_eq_false (by omega), if_pos (by decide), sg_127_42]
    · rw [if_neg f, decide_eq_true f, if_neg (by decide), sp_59 hU hK hb.1 hb.2, ztB_nx]
      simp only [zk_l, zk_r, Option.toList_some, Option.toList_none, List.cons_append, List.nil_append, zrokB, zrokB0, zrokB1, zrokJ0, zrokJ1, and_true, true_and, and_self, if_true, if_false, b2_0, b2_1, b2_not, ite_self]
      rw [sg_127_35, jI_add]
      have e : min 20 (zt s c) = ztB s (c + 1) := by
        unfold ztB
        rw [if_neg (by omega), show c + 1 - 1 = c by omega]
        rcases zt_end hG c with h | ⟨-, h⟩ <;> omega
      rw [e]
      rfl
  have key := zloops (f := fun c => wz W 127 5 [.ref 0, .int (jI c), .int (jI (ztB s c))] [] (jm J) Q) (fun c => decide (zt s c = 99)) (s 5).toNat (fun c hc hp => by
    try simp only at hp ⊢
    rw [step c hc, if_neg (of_decide_eq_false hp)])
  rw [sg_127_0]
  refine Eq.trans key ?_
  have hle := zfst_le (fun c => decide (zt s c = 99)) (s 5).toNat
  have hy := zfst_yes (fun c => decide (zt s c = 99)) (s 5).toNat
  have hz : znN s = zfst (fun c => decide (zt s c = 99)) (s 5).toNat := rfl
  rw [hz]
  generalize zfst (fun c => decide (zt s c = 99)) (s 5).toNat = m at *
  by_cases hm : m < (s 5).toNat
  · rw [step m hm, if_pos (of_decide_eq_true (hy hm))]
  · obtain rfl : m = (s 5).toNat := by omega
    rw [sg_127_5]
    simp (disch := first | assumption | omega) only [hu0, jI_cl, jm_n, jz_n, i_lit, i_c0, i_c1, Int.toNat_of_nonneg, Int.toNat_natCast, jrow_same, jrow_ne, jrow_jrow, sset_eq, sset_ne]
    rw [if_pos (by rw [jI_le (by omega) (by omega) (by omega) (by omega)]; omega), sg_127_42]
theorem op_zonesNeeded (hk : k ≤ 30000) : Op W k [] 127 286 [.ref 0, .float 0, .float 0] [.ref 353, .float 0, .float 0] := by
  refine Op.q (fun J g t => ?_)
  obtain ⟨-, t2, t3, -⟩ := id t
  obtain ⟨a1', a2', a3', a4', a5', a6'⟩ := t3.1
  obtain ⟨b1, b2x, b3, b4, b5, b6, b7, b8, b9, b10, b11, b12⟩ := t2.1
  obtain ⟨-, hS, hU, -⟩ := id g
  obtain ⟨d1, d2, d3, hpl, hq, hc, ho⟩ := id hS
  have hcx := GC_cx g t hk
  have hG := t2.2.2.1
  have hzn := znN_le (J 355)
  refine ⟨oI (znN (J 355)), J, znN (J 355), jrow J 353 (sset (J 353) 0 0), fun Q => ?_, fun Q => ?_, kp_thr, mt_ok⟩
  · rw [sp_127 hU t2]
  · rw [sg_286_0]
    simp (disch := first | assumption | omega) only [jI_cl, jm_n, jz_n, i_lit, i_c0, i_c1, Int.toNat_of_nonneg, Int.toNat_natCast, jrow_same, jrow_ne, jrow_jrow, sset_eq, sset_ne]
    have e99 : nxZ (J 355) (-99) = zt (J 355) 0 := nxF_lo hG (by decide) (by decide) _ (by omega)
    rw [sp_285 (by rw [e355]; exact t2) (by decide) (by decide), e355, e99]
    simp only [zk_l, zk_r, Option.toList_some, Option.toList_none, List.cons_append, List.nil_append, zrokB, zrokB0, zrokB1, zrokJ0, zrokJ1, and_true, true_and, and_self, if_true, if_false, b2_0, b2_1, b2_not, ite_self]
    rw [sg_286_13]
    have step : ∀ c : Nat, c ≤ (J 355 5).toNat → wz W 286 14 [.ref 353, .int (jI c), .int (jI (zt (J 355) c))] [] (jm (jrow J 353 (sset (J 353) 0 0))) Q = if zt (J 355) c = 99 then Q (oI c) (jm (jrow J 353 (sset (J 353) 0 0))) else wz W 286 14 [.ref 353, .int (jI (c + 1 : Nat)), .int (jI (zt (J 355) (c + 1)))] [] (jm (jrow J 353 (sset (J 353) 0 0))) Q := by
      intro c hc
      have hb := zt_end hG c
      rw [sg_286_14]
      by_cases f : zt (J 355) c = 99
      · rw [if_pos f, if_pos (by rw [f]; exact Int32.le_refl _)]
      · rw [if_neg f, if_neg (by rw [jI_le (by omega) (by omega) (by omega) (by omega)]; omega), sp_285 (by rw [e355]; exact t2) (by omega) (by omega), e355]
        simp only [zk_l, zk_r, Option.toList_some, Option.toList_none, List.cons_append, List.nil_append, zrokB, zrokB0, zrokB1, zrokJ0, zrokJ1, and_true, true_and, and_self, if_true, if_false, b2_0, b2_1, b2_not, ite_self]
        rw [sg_286_28, jI_add]
        rfl
    have key := zloops (f := fun c => wz W 286 14 [.ref 353, .int (jI c), .int (jI (zt (J 355) c))] [] (jm (jrow J 353 (sset (J 353) 0 0))) Q) (fun c => decide (zt (J 355) c = 99)) (J 355 5).toNat (fun c hc hp => by
      try simp only at hp ⊢
      rw [step c (by omega), if_neg (of_decide_eq_false hp)])
    refine Eq.trans key ?_
    have hz : zt (J 355) (znN (J 355)) = 99 := by
      have := znN_lt hG b9 (znN (J 355))
      apply Classical.byContradiction
      intro h
      have := this.mp h
      omega
    exact (step (znN (J 355)) hzn).trans (if_pos hz)
theorem op_zoneTemperature (hk : k ≤ 30000) {n : Int} (p1 : -2147483648 ≤ n) (p2 : n < 2147483648) : Op W k [0] 128 287 [.ref 0, .int (jI n), .float 0, .float 0] [.ref 353, .int (jI n), .float 0, .float 0] := by
  refine Op.q (fun J g t => ?_)
  obtain ⟨-, t2, t3, -⟩ := id t
  obtain ⟨a1', a2', a3', a4', a5', a6'⟩ := t3.1
  obtain ⟨b1, b2x, b3, b4, b5, b6, b7, b8, b9, b10, b11, b12⟩ := t2.1
  obtain ⟨-, hS, hU, -⟩ := id g
  obtain ⟨d1, d2, d3, hpl, hq, hc, ho⟩ := id hS
  have hcx := GC_cx g t hk
  have hG := t2.2.2.1
  have hzn := znN_le (J 355)
  have hlt := znN_lt hG b9
  have e99 : nxZ (J 355) (-99) = zt (J 355) 0 := nxF_lo hG (by decide) (by decide) _ (by omega)
  have href : ∀ Q : zO → zI → Prop, wz W 287 0 [.ref 353, .int (jI n), .float 0, .float 0] [] (jm J) Q = wz W 287 14 [.ref 353, .int (jI n), .int (jI (zt (J 355) 0)), .int (jI (0 : Nat))] [] (jm (jrow J 353 (sset (J 353) 0 0))) Q := by
    intro Q
    rw [sg_287_0]
    simp (disch := first | assumption | omega) only [jI_cl, jm_n, jz_n, i_lit, i_c0, i_c1, Int.toNat_of_nonneg, Int.toNat_natCast, jrow_same, jrow_ne, jrow_jrow, sset_eq, sset_ne]
    rw [sp_285 (by rw [e355]; exact t2) (by decide) (by decide), e355, e99]
    simp only [zk_l, zk_r, Option.toList_some, Option.toList_none, List.cons_append, List.nil_append, zrokB, zrokB0, zrokB1, zrokJ0, zrokJ1, and_true, true_and, and_self, if_true, if_false, b2_0, b2_1, b2_not, ite_self]
    rw [sg_287_11]
  have step : ∀ c : Nat, c ≤ (J 355 5).toNat → ∀ Q : zO → zI → Prop, wz W 287 14 [.ref 353, .int (jI n), .int (jI (zt (J 355) c)), .int (jI c)] [] (jm (jrow J 353 (sset (J 353) 0 0))) Q = if n ≤ c ∨ zt (J 355) c = 99 then wz W 287 37 [.ref 353, .int (jI n), .int (jI (zt (J 355) c)), .int (jI c)] [] (jm (jrow J 353 (sset (J 353) 0 0))) Q else wz W 287 14 [.ref 353, .int (jI n), .int (jI (zt (J 355) (c + 1))), .int (jI (c + 1 : Nat))] [] (jm (jrow J 353 (sset (J 353) 0 0))) Q := by
    intro c hc Q
    have hb := zt_end hG c
    rw [sg_287_14]
    by_cases f1 : n ≤ c
    · rw [if_pos (by rw [jI_le (by omega) (by omega) (by omega) (by omega)]; omega), if_pos (Or.inl f1)]
    · rw [if_neg (by rw [jI_le (by omega) (by omega) (by omega) (by omega)]; omega)]
      by_cases f : zt (J 355) c = 99
      · rw [if_pos (Or.inr f), if_pos (by rw [f]; exact Int32.le_refl _)]
      · rw [if_neg (by rw [jI_le (by omega) (by omega) (by omega) (by omega)]; omega), if_neg (by omega), sp_285 (by rw [e355]; exact t2) (by omega) (by omega), e355]
        simp only [zk_l, zk_r, Option.toList_some, Option.toList_none, List.cons_append, List.nil_append, zrokB, zrokB0, zrokB1, zrokJ0, zrokJ1, and_true, true_and, and_self, if_true, if_false, b2_0, b2_1, b2_not, ite_self]
        rw [sg_287_30, jI_add]
        rfl
  by_cases v : 0 ≤ n ∧ n < znN (J 355)
  · obtain ⟨m, rfl⟩ : ∃ m : Nat, n = m := ⟨n.toNat, by omega⟩
    have hm := (hlt m).mpr (by omega)
    have hb := zt_end hG m
    refine ⟨oI (zt (J 355) m), J, zt (J 355) m, jrow J 353 (sset (J 353) 0 0), fun Q => ?_, fun Q => ?_, kp_thr, mt_ok⟩
    · rw [sg_128_0, if_neg (by rw [jI_lt0 (by omega) (by omega)]; omega), sp_127 hU t2]
      simp only [zk_l, zk_r, Option.toList_some, Option.toList_none, List.cons_append, List.nil_append, zrokB, zrokB0, zrokB1, zrokJ0, zrokJ1, and_true, true_and, and_self, if_true, if_false, b2_0, b2_1, b2_not, ite_self]
      rw [sg_128_9, if_pos (by rw [jI_lt (by omega) (by omega) (by omega) (by omega)]; omega)]
      have key := zloop (f := fun c => wz W 128 28 [.ref 0, .int (jI m), .int (jI (ztB (J 355) c)), .int (jI c)] [] (jm J) Q) (m + 1) (fun c hc => by
        try simp only
        have hbc := ztB_bd hG c
        have h1 := (hlt c).mpr (by omega)
        have h2 := zt_end hG c
        rw [sg_128_28, if_neg (by rw [jI_lt (by omega) (by omega) (by omega) (by omega)]; omega), sp_59 hU t2 hbc.1 hbc.2, ztB_nx]
        simp only [zk_l, zk_r, Option.toList_some, Option.toList_none, List.cons_append, List.nil_append, zrokB, zrokB0, zrokB1, zrokJ0, zrokJ1, and_true, true_and, and_self, if_true, if_false, b2_0, b2_1, b2_not, ite_self]
        rw [sg_128_41, jI_add]
        have e : min 20 (zt (J 355) c) = ztB (J 355) (c + 1) := by
          unfold ztB
          rw [if_neg (by omega), show c + 1 - 1 = c by omega]
          omega
        rw [e]
        rfl)
      refine Eq.trans key ?_
      rw [sg_128_28, if_pos (by rw [jI_lt (by omega) (by omega) (by omega) (by omega)]; omega)]
      unfold ztB
      rw [if_neg (by omega), show m + 1 - 1 = m by omega]
    · rw [href]
      have key := zloop (f := fun c => wz W 287 14 [.ref 353, .int (jI m), .int (jI (zt (J 355) c)), .int (jI c)] [] (jm (jrow J 353 (sset (J 353) 0 0))) Q) m (fun c hc => by
        try simp only
        have h1 := (hlt c).mpr (by omega)
        rw [step c (by omega), if_neg (by omega)])
      refine Eq.trans key ?_
      rw [step m (by omega), if_pos (Or.inl (Int.le_refl _)), sg_287_37, if_neg (by rw [jI_lt0 (by omega) (by omega)]; omega), if_neg (by rw [jI_le (by omega) (by omega) (by omega) (by omega)]; omega), sg_287_53]
      refine Eq.trans (sp_178t (W := W) 1) ?_
      simp only [zk_l, zk_r, Option.toList_some, Option.toList_none, List.cons_append, List.nil_append, zrokB, zrokB0, zrokB1, zrokJ0, zrokJ1, and_true, true_and, and_self, if_true, if_false, b2_0, b2_1, b2_not, ite_self]
      rw [sg_287_57, if_pos (by decide), sg_287_65]
  · refine ⟨oE 0, J, 0, jrow J 353 (sset (J 353) 0 1), fun Q => ?_, fun Q => ?_, kp_thr, mt_er 0 0 rfl rfl⟩
    · rw [sg_128_0]
      by_cases f : n < 0
      · rw [if_pos (by rw [jI_lt0 (by omega) (by omega)]; omega), sg_128_12]
      · rw [if_neg (by rw [jI_lt0 (by omega) (by omega)]; omega), sp_127 hU t2]
        simp only [zk_l, zk_r, Option.toList_some, Option.toList_none, List.cons_append, List.nil_append, zrokB, zrokB0, zrokB1, zrokJ0, zrokJ1, and_true, true_and, and_self, if_true, if_false, b2_0, b2_1, b2_not, ite_self]
        rw [sg_128_9, if_neg (by rw [jI_lt (by omega) (by omega) (by omega) (by omega)]; omega), sg_128_12]
    · have hend : ∀ (c : Nat), (n < 0 ∨ zt (J 355) c = 99) → ∀ Q : zO → zI → Prop, wz W 287 37 [.ref 353, .int (jI n), .int (jI (zt (J 355) c)), .int (jI c)] [] (jm (jrow J 353 (sset (J 353) 0 0))) Q = Q (oI 0) (jm (jrow J 353 (sset (J 353) 0 1))) := by
        intro c hc Q
        have hb := zt_end hG c
        have h52 : wz W 287 52 [.ref 353, .int (jI n), .int (jI (zt (J 355) c)), .int (jI c)] [.ref 353] (jm (jrow J 353 (sset (J 353) 0 0))) Q = Q (oI 0) (jm (jrow J 353 (sset (J 353) 0 1))) := by
          rw [sg_287_52, sg_287_53]
          refine Eq.trans (sp_178f (W := W) 1) ?_
          simp only [sset_ss, zk_l, zk_r, Option.toList_some, Option.toList_none, List.cons_append, List.nil_append, zrokB, zrokB0, zrokB1, zrokJ0, zrokJ1, and_true, true_and, and_self, if_true, if_false, b2_0, b2_1, b2_not, ite_self, jI_cl, jm_n, jz_n, i_lit, i_c0, i_c1, Int.toNat_of_nonneg, Int.toNat_natCast, jrow_same, jrow_ne, jrow_jrow, sset_eq, sset_ne]
          rw [sg_287_57, if_neg (by decide), sg_287_65]
        rw [sg_287_37]
        by_cases f : n < 0
        · rw [if_pos (by rw [jI_lt0 (by omega) (by omega)]; omega), h52]
        · rw [if_neg (by rw [jI_lt0 (by omega) (by omega)]; omega), if_pos (by rw [show zt (J 355) c = 99 by omega]; exact Int32.le_refl _), h52]
      rw [href]
      by_cases f : n < 0
      · rw [step 0 (by omega), if_pos (Or.inl (by omega)), hend 0 (Or.inl f)]
      · have key := zloop (f := fun c => wz W 287 14 [.ref 353, .int (jI n), .int (jI (zt (J 355) c)), .int (jI c)] [] (jm (jrow J 353 (sset (J 353) 0 0))) Q) (znN (J 355)) (fun c hc => by
          try simp only
          have h1 := (hlt c).mpr (by omega)
          rw [step c (by omega), if_neg (by omega)])
        refine Eq.trans key ?_
        have hz : zt (J 355) (znN (J 355)) = 99 := by
          apply Classical.byContradiction
          intro h
          have := (hlt _).mp h
          omega
        rw [step _ hzn, if_pos (Or.inr hz), hend _ (Or.inr hz)]
end
