/-! ===== the class: names and statements ===== -/
theorem cdL_cg {f g : Int → Int} {s t : Int} : ∀ k : Nat, (∀ j : Nat, j < k → f (s + (j : Int)) = g (t + (j : Int))) → cdL f s k = cdL g t k := by
  intro k
  induction k with
  | zero => intro _; rfl
  | succ k ih =>
    intro h
    show 32 * cdL f s k + (f (s + (k : Int)) - 96) = 32 * cdL g t k + (g (t + (k : Int)) - 96)
    rw [ih (fun j hj => h j (by omega)), h k (by omega)]
theorem tqW_cd {f : Int → Int} {n e : Int} {i : Nat} (h : tqW f n e i = true) : cdL f (tqS f n e) (tqE f n e - tqS f n e).toNat = cdW i := by
  unfold tqW at h
  rw [Bool.and_eq_true, Bool.and_eq_true, decide_eq_true_eq, decide_eq_true_eq, zAllB_iff] at h
  obtain ⟨h1, h2, h3⟩ := h
  have e : (tqE f n e - tqS f n e).toNat = (wdL i).length := by omega
  unfold cdW
  rw [e]
  refine cdL_cg _ (fun j hj => ?_)
  have h4 := h3 j hj
  rw [decide_eq_true_eq] at h4
  have h5 := tq_let h1 j (by omega)
  try simp only
  rw [Int.zero_add, Int.toNat_natCast, ← h4, jI_toInt (by omega) (by omega)]
theorem tqZ_iff (f : Int → Int) (n e : Int) : tqZ f n e = true ↔ ∃ i : Nat, i < 7 ∧ tqW f n e i = true := by
  unfold tqZ
  simp only [Bool.or_eq_true]
  constructor
  · rintro (h | h | h | h | h | h | h)
    · exact ⟨0, by decide, h⟩
    · exact ⟨1, by decide, h⟩
    · exact ⟨2, by decide, h⟩
    · exact ⟨3, by decide, h⟩
    · exact ⟨4, by decide, h⟩
    · exact ⟨5, by decide, h⟩
    · exact ⟨6, by decide, h⟩
  · rintro ⟨i, hi, h⟩
    match i, hi, h with
    | 0, _, h => exact Or.inl h
    | 1, _, h => exact Or.inr (Or.inl h)
    | 2, _, h => exact Or.inr (Or.inr (Or.inl h))
    | 3, _, h => exact Or.inr (Or.inr (Or.inr (Or.inl h)))
    | 4, _, h => exact Or.inr (Or.inr (Or.inr (Or.inr (Or.inl h))))
    | 5, _, h => exact Or.inr (Or.inr (Or.inr (Or.inr (Or.inr (Or.inl h)))))
    | 6, _, h => exact Or.inr (Or.inr (Or.inr (Or.inr (Or.inr (Or.inr h)))))
    | i + 7, hi, _ => exact absurd hi (by omega)
theorem tqN_n {f : Int → Int} {n e : Int} (e1 : e ≤ n) (h : tqN f n e ≠ 0) : tqC f n e = tqN f n e ∧ 1 ≤ tqN f n e ∧ tqZ f n e = false ∧ ∀ i, i < 7 → tqN f n e ≠ cdW i := by
  unfold tqN at h ⊢
  split at h
  · rename_i q
    rw [if_pos q]
    refine ⟨rfl, ?_, q.2.2, fun i hi h9 => ?_⟩
    · have hE := tqE_1 q.1 e1
      unfold tqC
      rw [if_pos ⟨q.1, q.2.1⟩]
      exact (cdL_p (f := f) (s := tqS f n e) (tqE f n e - tqS f n e).toNat (by omega) (tq_let q.1)).2.2 (by omega)
    · have := (tqZ_iff f n e).mpr ⟨i, hi, tqW_C hi q.1 q.2.1 e1 h9⟩
      rw [q.2.2] at this
      cases this
  · exact absurd rfl h
theorem tqN_0 {f : Int → Int} {n e : Int} (e1 : e ≤ n) (h : tqN f n e = 0) : tqC f n e = -1 ∨ (tqZ f n e = true ∧ ∃ i, i < 7 ∧ tqC f n e = cdW i) := by
  unfold tqN at h
  unfold tqC
  by_cases q : tqK f n e = 1 ∧ tqE f n e - tqS f n e ≤ 6
  · rw [if_pos q]
    refine Or.inr ?_
    cases hz : tqZ f n e with
    | false =>
      exfalso
      rw [if_pos ⟨q.1, q.2, hz⟩] at h
      have hE := tqE_1 q.1 e1
      unfold tqC at h
      rw [if_pos q] at h
      have := (cdL_p (f := f) (s := tqS f n e) (tqE f n e - tqS f n e).toNat (by omega) (tq_let q.1)).2.2 (by omega)
      omega
    | true =>
      obtain ⟨i, hi, hw⟩ := (tqZ_iff f n e).mp hz
      exact ⟨rfl, i, hi, tqW_cd hw⟩
  · rw [if_neg q]
    exact Or.inl rfl
theorem fndC_no {s : Int → Int} {nm : Int} (hK : okK s) (hN : nrS s) (h : nm = -1 ∨ ∃ i, i < 7 ∧ nm = cdW i) : fndC s nm = -1 := by
  refine fnd_no (fun i hi h9 => ?_)
  rcases h with h | ⟨j, hj, h⟩
  · have := (hK.2.1 i (by omega) hi).2.2.2.2.1
    omega
  · exact hN.1 i (by omega) hi j hj (h9.trans h)
theorem fndG_no {s : Int → Int} {nm : Int} (hK : okK s) (hN : nrS s) (h : nm = -1 ∨ ∃ i, i < 7 ∧ nm = cdW i) : fndG s nm = -1 := by
  refine fnd_no (fun i hi h9 => ?_)
  rcases h with h | ⟨j, hj, h⟩
  · have := (hK.2.2.1 i (by omega) hi).2.2.2.2.2.2.2.2.2.1
    omega
  · exact hN.2 i (by omega) hi j hj (h9.trans h)
theorem fndC_q {f : Int → Int} {n e : Int} {s : Int → Int} (hK : okK s) (hN : nrS s) (e1 : e ≤ n) : fndC s (tqC f n e) = if tqN f n e ≠ 0 then fndC s (tqN f n e) else -1 := by
  by_cases h : tqN f n e = 0
  · rw [if_neg (fun h9 => h9 h)]
    rcases tqN_0 e1 h with h1 | ⟨-, h1⟩
    · exact fndC_no hK hN (Or.inl h1)
    · exact fndC_no hK hN (Or.inr h1)
  · rw [if_pos h, (tqN_n e1 h).1]
theorem fndG_q {f : Int → Int} {n e : Int} {s : Int → Int} (hK : okK s) (hN : nrS s) (e1 : e ≤ n) : fndG s (tqC f n e) = if tqN f n e ≠ 0 then fndG s (tqN f n e) else -1 := by
  by_cases h : tqN f n e = 0
  · rw [if_neg (fun h9 => h9 h)]
    rcases tqN_0 e1 h with h1 | ⟨-, h1⟩
    · exact fndG_no hK hN (Or.inl h1)
    · exact fndG_no hK hN (Or.inr h1)
  · rw [if_pos h, (tqN_n e1 h).1]
/-- a setup that is being read, at the cell u -/
def RP (J : zJ) (u : Nat) (s : Int → Int) (hl hq : Int) : Prop :=
  J u 0 = s 5 ∧ J u 3 = s 4 ∧ J u 6 = s 7 ∧ J u 10 = s 6 ∧ J u 12 = s 1 ∧ J u 13 = s 2 ∧ J u 14 = s 3 ∧ J u 15 = hl ∧ J u 16 = hq ∧
  (∀ g, 0 ≤ g → g < s 5 → J (u + 13 + g.toNat) 1 = s (36 + 6 * g) ∧ J (u + 13 + g.toNat) 2 = s (36 + 6 * g + 1) ∧ J (u + 13 + g.toNat) 3 = s (36 + 6 * g + 2) ∧ J (u + 13 + g.toNat) 4 = s (36 + 6 * g + 3) ∧ J (u + 13 + g.toNat) 5 = s (36 + 6 * g + 4) ∧ J (u + 13 + g.toNat) 6 = s (36 + 6 * g + 5)) ∧
  (∀ c, 0 ≤ c → c < s 4 → J (u + 19 + c.toNat) 0 = s (12 + 8 * c) ∧ J (u + 19 + c.toNat) 1 = s (12 + 8 * c + 1) ∧ J (u + 19 + c.toNat) 2 = s (12 + 8 * c + 2) ∧ J (u + 19 + c.toNat) 3 = s (12 + 8 * c + 3) ∧ J (u + 19 + c.toNat) 4 = s (12 + 8 * c + 6) ∧ jI (J (u + 19 + c.toNat) 5) = mk (nC s c) (fun _ => true) ∧ jI (J (u + 19 + c.toNat) 6) = mk (nC s c) (fun k => decide (k % gC s c = 0))) ∧
  (∀ o, 0 ≤ o → o < s 7 → J (u + 5 + 1) o = s (352 + 4 * o) ∧ J (u + 7 + 1) o = s (352 + 4 * o + 1) ∧ J (u + 9 + 1) o = s (352 + 4 * o + 2)) ∧
  (∀ p, 0 ≤ p → p < s 6 → J (u + 11 + 1) p = s (72 + 7 * p))
/-- what reading a setup leaves alone -/
def fU (u : Nat) (J J' : zJ) : Prop := (∀ r, r ≠ 3 → (r < u ∨ u + 21 < r) → J' r = J r) ∧ ∀ g : Int, 0 ≤ g → g < 6 → J' (u + 13 + g.toNat) 0 = J (u + 13 + g.toNat) 0
theorem fU_3 {u : Nat} {J J' : zJ} (hu : 5 ≤ u) (h : ∀ r, r ≠ 3 → J' r = J r) : fU u J J' := ⟨fun r hr _ => h r hr, fun g g0 g1 => by rw [h _ (by omega)]⟩
theorem fU_t {u : Nat} {J J1 J2 : zJ} (h : fU u J J1) (g : fU u J1 J2) : fU u J J2 := ⟨fun r a b => (g.1 r a b).trans (h.1 r a b), fun x a b => (g.2 x a b).trans (h.2 x a b)⟩
/-- a row of the setup, its number left alone -/
theorem fU_r {u q : Nat} {J : zJ} {h : Int → Int} (hq : u ≤ q) (hq2 : q ≤ u + 21) (h0 : u + 13 ≤ q → q ≤ u + 18 → h 0 = J q 0) : fU u J (jrow J q h) := by
  refine ⟨fun r a b => jrow_ne (by omega), fun g g0 g1 => ?_⟩
  by_cases e : u + 13 + g.toNat = q
  · rw [e, jrow_same]; exact h0 (by omega) (by omega)
  · rw [jrow_ne e]
theorem RP_fr {u : Nat} {J J' : zJ} {s : Int → Int} {hl hq : Int} (h : RP J u s hl hq) (h5 : s 5 ≤ 6) (h4 : s 4 ≤ 3) (e : ∀ r, u ≤ r → r ≤ u + 21 → J' r = J r) : RP J' u s hl hq := by
  obtain ⟨a1, a2, a3, a4, a5, a6, a7, a8, a9, hg, hc, ho, hp⟩ := h
  have eu := e u (by omega) (by omega)
  refine ⟨by rw [eu]; exact a1, by rw [eu]; exact a2, by rw [eu]; exact a3, by rw [eu]; exact a4, by rw [eu]; exact a5, by rw [eu]; exact a6, by rw [eu]; exact a7, by rw [eu]; exact a8, by rw [eu]; exact a9, fun g a b => ?_, fun c a b => ?_, fun o a b => ?_, fun p a b => ?_⟩
  · rw [e _ (by omega) (by omega)]; exact hg g a b
  · rw [e _ (by omega) (by omega)]; exact hc c a b
  · rw [e _ (by omega) (by omega), e _ (show u ≤ u + 7 + 1 by omega) (by omega), e _ (show u ≤ u + 9 + 1 by omega) (by omega)]; exact ho o a b
  · rw [e _ (by omega) (by omega)]; exact hp p a b
section
variable {W : zW} {J : zJ} {Q : zO → zI → Prop} {f : Int → Int} {n e : Int} {u : Nat} {s : Int → Int} {hl hq : Int}
theorem sp_54 (hu : zStp u) {g : Nat → Int} {c nm : Int} (hc : J u 0 = c) (c0 : 0 ≤ c) (c6 : c ≤ 6) (hg : ∀ i : Nat, (i : Int) < c → J (u + 13 + i) 1 = g i ∧ 0 ≤ g i ∧ g i < 1073741824) (m0 : -1 ≤ nm) (m1 : nm < 1073741824) : wz W 54 0 [.ref u, .int (jI nm), .float 0] [] (jm J) Q = Q (oI (fnd g c nm)) (jm J) := by
  have hle := zfst_le (fun i => decide (g i = nm)) c.toNat
  have key := zloops (f := fun k : Nat => wz W 54 2 [.ref u, .int (jI nm), .int (jI k)] [] (jm J) Q) (fun i => decide (g i = nm)) c.toNat (fun k hk hcc => by
    have hcc : ¬ g k = nm := by simpa using hcc
    obtain ⟨g1, g2, g3⟩ := hg k (by omega)
    try simp only
    rw [sg_54_2 (hs := hu)]
    simp (disch := first | assumption | omega) only [hc, zk_l, zk_r, Option.toList_some, Option.toList_none, List.cons_append, List.nil_append, zrokB, zrokB0, zrokB1, zrokJ0, zrokJ1, and_true, true_and, and_self, if_true, if_false, b2_0, b2_1, b2_not, ite_self, Int.add_zero, jI_nat, jI_add, jI_sub, jI_mul, jI_neg, jI_lt, jI_le, jI_eq, jI_lt0, jI_0lt, jI_le0, jI_0le, jI_eq0, jI_in, jI_dv, i_mod, jI_cl, jm_n, jz_n, i_lit, i_c0, i_c1, Int.toNat_of_nonneg, Int.toNat_natCast, jrow_same, jrow_ne, jrow_jrow, sset_eq, sset_ne]
    rw [if_neg (by omega), sp_52 hu (by omega) (by omega)]
    simp only [zk_l, zk_r, Option.toList_some, Option.toList_none, List.cons_append, List.nil_append, zrokB, zrokB0, zrokB1, zrokJ0, zrokJ1, and_true, true_and, and_self, if_true, if_false, b2_0, b2_1, b2_not, ite_self]
    rw [Int.toNat_natCast, sg_54_15 (hs := hu) (hqt0 := zStp_g hu (by omega))]
    simp (disch := first | assumption | omega) only [g1, zk_l, zk_r, Option.toList_some, Option.toList_none, List.cons_append, List.nil_append, zrokB, zrokB0, zrokB1, zrokJ0, zrokJ1, and_true, true_and, and_self, if_true, if_false, b2_0, b2_1, b2_not, ite_self, Int.add_zero, jI_nat, jI_add, jI_sub, jI_mul, jI_neg, jI_lt, jI_le, jI_eq, jI_lt0, jI_0lt, jI_le0, jI_0le, jI_eq0, jI_in, jI_dv, i_mod, jI_cl, jm_n, jz_n, i_lit, i_c0, i_c1, Int.toNat_of_nonneg, Int.toNat_natCast, jrow_same, jrow_ne, jrow_jrow, sset_eq, sset_ne]
    rw [if_neg hcc]
    rfl)
  rw [sg_54_0 (hs := hu)]
  refine Eq.trans key ?_
  try simp only
  unfold fnd
  rw [sg_54_2 (hs := hu)]
  simp (disch := first | assumption | omega) only [hc, zk_l, zk_r, Option.toList_some, Option.toList_none, List.cons_append, List.nil_append, zrokB, zrokB0, zrokB1, zrokJ0, zrokJ1, and_true, true_and, and_self, if_true, if_false, b2_0, b2_1, b2_not, ite_self, Int.add_zero, jI_nat, jI_add, jI_sub, jI_mul, jI_neg, jI_lt, jI_le, jI_eq, jI_lt0, jI_0lt, jI_le0, jI_0le, jI_eq0, jI_in, jI_dv, i_mod, jI_cl, jm_n, jz_n, i_lit, i_c0, i_c1, Int.toNat_of_nonneg, Int.toNat_natCast, jrow_same, jrow_ne, jrow_jrow, sset_eq, sset_ne]
  by_cases q : zfst (fun i => decide (g i = nm)) c.toNat < c.toNat
  · have hy := zfst_yes (fun i => decide (g i = nm)) c.toNat q
    have hy : g (zfst (fun i => decide (g i = nm)) c.toNat) = nm := by simpa using hy
    obtain ⟨g1, g2, g3⟩ := hg (zfst (fun i => decide (g i = nm)) c.toNat) (by omega)
    rw [if_neg (by omega), if_pos q, sp_52 hu (by omega) (by omega)]
    simp only [zk_l, zk_r, Option.toList_some, Option.toList_none, List.cons_append, List.nil_append, zrokB, zrokB0, zrokB1, zrokJ0, zrokJ1, and_true, true_and, and_self, if_true, if_false, b2_0, b2_1, b2_not, ite_self]
    rw [Int.toNat_natCast, sg_54_15 (hs := hu) (hqt0 := zStp_g hu (by omega))]
    simp (disch := first | assumption | omega) only [g1, zk_l, zk_r, Option.toList_some, Option.toList_none, List.cons_append, List.nil_append, zrokB, zrokB0, zrokB1, zrokJ0, zrokJ1, and_true, true_and, and_self, if_true, if_false, b2_0, b2_1, b2_not, ite_self, Int.add_zero, jI_nat, jI_add, jI_sub, jI_mul, jI_neg, jI_lt, jI_le, jI_eq, jI_lt0, jI_0lt, jI_le0, jI_0le, jI_eq0, jI_in, jI_dv, i_mod, jI_cl, jm_n, jz_n, i_lit, i_c0, i_c1, Int.toNat_of_nonneg, Int.toNat_natCast, jrow_same, jrow_ne, jrow_jrow, sset_eq, sset_ne]
    rw [if_pos hy]
  · rw [if_pos (by omega), if_neg q]
theorem sp_55 (hu : zStp u) {g : Nat → Int} {c nm : Int} (hc : J u 3 = c) (c0 : 0 ≤ c) (c6 : c ≤ 3) (hg : ∀ i : Nat, (i : Int) < c → J (u + 19 + i) 0 = g i ∧ 0 ≤ g i ∧ g i < 1073741824) (m0 : -1 ≤ nm) (m1 : nm < 1073741824) : wz W 55 0 [.ref u, .int (jI nm), .float 0] [] (jm J) Q = Q (oI (fnd g c nm)) (jm J) := by
  have hle := zfst_le (fun i => decide (g i = nm)) c.toNat
  have key := zloops (f := fun k : Nat => wz W 55 2 [.ref u, .int (jI nm), .int (jI k)] [] (jm J) Q) (fun i => decide (g i = nm)) c.toNat (fun k hk hcc => by
    have hcc : ¬ g k = nm := by simpa using hcc
    obtain ⟨g1, g2, g3⟩ := hg k (by omega)
    try simp only
    rw [sg_55_2 (hs := hu)]
    simp (disch := first | assumption | omega) only [hc, zk_l, zk_r, Option.toList_some, Option.toList_none, List.cons_append, List.nil_append, zrokB, zrokB0, zrokB1, zrokJ0, zrokJ1, and_true, true_and, and_self, if_true, if_false, b2_0, b2_1, b2_not, ite_self, Int.add_zero, jI_nat, jI_add, jI_sub, jI_mul, jI_neg, jI_lt, jI_le, jI_eq, jI_lt0, jI_0lt, jI_le0, jI_0le, jI_eq0, jI_in, jI_dv, i_mod, jI_cl, jm_n, jz_n, i_lit, i_c0, i_c1, Int.toNat_of_nonneg, Int.toNat_natCast, jrow_same, jrow_ne, jrow_jrow, sset_eq, sset_ne]
    rw [if_neg (by omega), sp_53 hu (by omega) (by omega)]
    simp only [zk_l, zk_r, Option.toList_some, Option.toList_none, List.cons_append, List.nil_append, zrokB, zrokB0, zrokB1, zrokJ0, zrokJ1, and_true, true_and, and_self, if_true, if_false, b2_0, b2_1, b2_not, ite_self]
    rw [Int.toNat_natCast, sg_55_15 (hs := hu) (hqt0 := zStp_c hu (by omega))]
    simp (disch := first | assumption | omega) only [g1, zk_l, zk_r, Option.toList_some, Option.toList_none, List.cons_append, List.nil_append, zrokB, zrokB0, zrokB1, zrokJ0, zrokJ1, and_true, true_and, and_self, if_true, if_false, b2_0, b2_1, b2_not, ite_self, Int.add_zero, jI_nat, jI_add, jI_sub, jI_mul, jI_neg, jI_lt, jI_le, jI_eq, jI_lt0, jI_0lt, jI_le0, jI_0le, jI_eq0, jI_in, jI_dv, i_mod, jI_cl, jm_n, jz_n, i_lit, i_c0, i_c1, Int.toNat_of_nonneg, Int.toNat_natCast, jrow_same, jrow_ne, jrow_jrow, sset_eq, sset_ne]
    rw [if_neg hcc]
    rfl)
  rw [sg_55_0 (hs := hu)]
  refine Eq.trans key ?_
  try simp only
  unfold fnd
  rw [sg_55_2 (hs := hu)]
  simp (disch := first | assumption | omega) only [hc, zk_l, zk_r, Option.toList_some, Option.toList_none, List.cons_append, List.nil_append, zrokB, zrokB0, zrokB1, zrokJ0, zrokJ1, and_true, true_and, and_self, if_true, if_false, b2_0, b2_1, b2_not, ite_self, Int.add_zero, jI_nat, jI_add, jI_sub, jI_mul, jI_neg, jI_lt, jI_le, jI_eq, jI_lt0, jI_0lt, jI_le0, jI_0le, jI_eq0, jI_in, jI_dv, i_mod, jI_cl, jm_n, jz_n, i_lit, i_c0, i_c1, Int.toNat_of_nonneg, Int.toNat_natCast, jrow_same, jrow_ne, jrow_jrow, sset_eq, sset_ne]
  by_cases q : zfst (fun i => decide (g i = nm)) c.toNat < c.toNat
  · have hy := zfst_yes (fun i => decide (g i = nm)) c.toNat q
    have hy : g (zfst (fun i => decide (g i = nm)) c.toNat) = nm := by simpa using hy
    obtain ⟨g1, g2, g3⟩ := hg (zfst (fun i => decide (g i = nm)) c.toNat) (by omega)
    rw [if_neg (by omega), if_pos q, sp_53 hu (by omega) (by omega)]
    simp only [zk_l, zk_r, Option.toList_some, Option.toList_none, List.cons_append, List.nil_append, zrokB, zrokB0, zrokB1, zrokJ0, zrokJ1, and_true, true_and, and_self, if_true, if_false, b2_0, b2_1, b2_not, ite_self]
    rw [Int.toNat_natCast, sg_55_15 (hs := hu) (hqt0 := zStp_c hu (by omega))]
    simp (disch := first | assumption | omega) only [g1, zk_l, zk_r, Option.toList_some, Option.toList_none, List.cons_append, List.nil_append, zrokB, zrokB0, zrokB1, zrokJ0, zrokJ1, and_true, true_and, and_self, if_true, if_false, b2_0, b2_1, b2_not, ite_self, Int.add_zero, jI_nat, jI_add, jI_sub, jI_mul, jI_neg, jI_lt, jI_le, jI_eq, jI_lt0, jI_0lt, jI_le0, jI_0le, jI_eq0, jI_in, jI_dv, i_mod, jI_cl, jm_n, jz_n, i_lit, i_c0, i_c1, Int.toNat_of_nonneg, Int.toNat_natCast, jrow_same, jrow_ne, jrow_jrow, sset_eq, sset_ne]
    rw [if_pos hy]
  · rw [if_pos (by omega), if_neg q]
/-- the names of a setup -/
theorem sp_54r {nm : Int} (hu : zStp u) (hR : RP J u s hl hq) (hK : okK s) (m0 : -1 ≤ nm) (m1 : nm < 1073741824) : wz W 54 0 [.ref u, .int (jI nm), .float 0] [] (jm J) Q = Q (oI (fndG s nm)) (jm J) := by
  obtain ⟨x1, x2, x3, x4, x5, x6, x7, x8, x9, x10, x11, x12⟩ := hK.1
  obtain ⟨a1, a2, a3, a4, a5, a6, a7, a8, a9, hg, hc, ho, hp⟩ := hR
  refine sp_54 hu a1 x9 x10 (fun i hi => ?_) m0 m1
  have h1 := (hg i (by omega) hi).1
  have h2 := (hK.2.2.1 i (by omega) hi).2.2.2.2.2.2.2.2.2
  rw [Int.toNat_natCast] at h1
  exact ⟨h1, by omega, h2.2⟩
theorem sp_55r {nm : Int} (hu : zStp u) (hR : RP J u s hl hq) (hK : okK s) (m0 : -1 ≤ nm) (m1 : nm < 1073741824) : wz W 55 0 [.ref u, .int (jI nm), .float 0] [] (jm J) Q = Q (oI (fndC s nm)) (jm J) := by
  obtain ⟨x1, x2, x3, x4, x5, x6, x7, x8, x9, x10, x11, x12⟩ := hK.1
  obtain ⟨a1, a2, a3, a4, a5, a6, a7, a8, a9, hg, hc, ho, hp⟩ := hR
  refine sp_55 hu a2 x7 x8 (fun i hi => ?_) m0 m1
  have h1 := (hc i (by omega) hi).1
  have h2 := (hK.2.1 i (by omega) hi).2.2.2.2
  rw [Int.toNat_natCast] at h1
  exact ⟨h1, by omega, h2.2.1⟩
theorem fnd_b2 (g : Nat → Int) {c nm : Int} (h : c ≤ 100) : -1 ≤ fnd g c nm ∧ fnd g c nm < 100 := by
  rcases fnd_b g c nm with h1 | ⟨h1, h2, -⟩ <;> omega
/-- newName -/
theorem sp_35 (hu : zStp u) (u5 : 5 ≤ u) (ht : txt (J 2) f n) (hp : PC f n J e) (e0 : 0 ≤ e) (e1 : e ≤ n) (hR : RP J u s hl hq) (hO : okR s hl hq) :
    ∃ o J', (∀ Q : zO → zI → Prop, wz W 35 0 [.ref 3, .ref u] [] (jm J) Q = Q o (jm J')) ∧ (∀ r, r ≠ 3 → J' r = J r) ∧ cRs f n J' o (pNm f n s e) := by
  obtain ⟨hK, hN, -⟩ := hO
  obtain ⟨x1, x2, x3, x4, x5, x6, x7, x8, x9, x10, x11, x12⟩ := hK.1
  have hC := tqC_b f n e
  have hS := tqS_b (f := f) e1
  have hE := tqE_b (f := f) e1
  have bC := fnd_b2 (fun i : Nat => s (12 + 8 * (i : Int))) (c := s 4) (nm := tqC f n e) (by omega)
  have bG := fnd_b2 (fun i : Nat => s (36 + 6 * (i : Int))) (c := s 5) (nm := tqC f n e) (by omega)
  let J1 : zJ := jrow J 3 (sset (J 3) 5 (tqC f n e))
  have j1f : ∀ r, r ≠ 3 → J1 r = J r := fun r hr => jrow_ne hr
  have hp1 : PC f n J1 e := PC_5 hp
  have ht1 : txt (J1 2) f n := by rw [j1f 2 (by decide)]; exact ht
  have hR1 : RP J1 u s hl hq := RP_fr hR x10 x8 (fun r a b => j1f r (by omega))
  have hfail : ∀ r : Int ⊕ (Int × Int), r = .inl (tqS f n e) → cRs f n J1 (oI 0) r := fun r hr => by
    rw [hr]
    exact ⟨rfl, hp1.2.2.1, hp1.1⟩
  have v5 : jm J1 3 5 = jI (tqC f n e) := by
    show jI (jrow J 3 (sset (J 3) 5 (tqC f n e)) 3 5) = _
    rw [jrow_same, sset_eq rfl]
  have R1 : ∀ Q : zO → zI → Prop, wz W 35 0 [.ref 3, .ref u] [] (jm J) Q = (if tqC f n e = -1 then Q (oI 0) (jm J1) else wz W 35 24 [.ref 3, .ref u] [.int (jI (fndC s (tqC f n e)))] (jm J1) Q) := by
    intro Q
    rw [sg_35_0 (hp1 := hu), sp_43 ht hp e0 e1]
    simp only [zk_l, zk_r, Option.toList_some, Option.toList_none, List.cons_append, List.nil_append, zrokB, zrokB0, zrokB1, zrokJ0, zrokJ1, and_true, true_and, and_self, if_true, if_false, b2_0, b2_1, b2_not, ite_self]
    rw [sg_35_5 (hp1 := hu)]
    simp (disch := first | assumption | omega) only [jm_n, jz_n, i_lit, jrow_same, sset_eq, jI_eq]
    by_cases c : tqC f n e = -1
    · rw [if_pos c, if_pos c, sg_35_40 (hp1 := hu)]
    · rw [if_neg c, if_neg c]
      refine (sp_55r (J := J1) hu hR1 hK (by omega) (by omega)).trans ?_
      simp only [zk_l, zk_r, Option.toList_some, Option.toList_none, List.cons_append, List.nil_append, zrokB, zrokB0, zrokB1, zrokJ0, zrokJ1, and_true, true_and, and_self, if_true, if_false, b2_0, b2_1, b2_not, ite_self]
  have R2 : ∀ Q : zO → zI → Prop, tqC f n e ≠ -1 → fndC s (tqC f n e) = -1 → wz W 35 0 [.ref 3, .ref u] [] (jm J) Q = wz W 35 36 [.ref 3, .ref u] [.int (jI (fndG s (tqC f n e)))] (jm J1) Q := by
    intro Q h1 h2
    rw [R1, if_neg h1, h2, sg_35_24 (hp1 := hu), if_pos rfl, v5, sp_54r hu hR1 hK (by omega) (by omega)]
    simp only [zk_l, zk_r, Option.toList_some, Option.toList_none, List.cons_append, List.nil_append, zrokB, zrokB0, zrokB1, zrokJ0, zrokJ1, and_true, true_and, and_self, if_true, if_false, b2_0, b2_1, b2_not, ite_self]
  have R3 : ∀ Q : zO → zI → Prop, wz W 35 36 [.ref 3, .ref u] [.int (jI (-1))] (jm J1) Q = (if tqZ f n e = true then Q (oI 0) (jm J1) else wz W 39 0 [.ref 3] [] (jm J1) (zk Q (fun v I1 => wz W 35 111 [.ref 3, .ref u] (v.toList ++ []) I1 Q))) := by
    intro Q
    have hw := fun (i : Nat) (hi : i < 7) (Q : zO → zI → Prop) => sp_42 (W := W) (Q := Q) (J := J1) hi ht1 hp1 e0 e1
    rw [sg_35_36 (hp1 := hu), if_pos rfl, hw 0 (by decide)]
    simp only [zk_l, zk_r, Option.toList_some, Option.toList_none, List.cons_append, List.nil_append, zrokB, zrokB0, zrokB1, zrokJ0, zrokJ1, and_true, true_and, and_self, if_true, if_false, b2_0, b2_1, b2_not, ite_self]
    unfold tqZ
    rw [sg_35_48 (hp1 := hu)]
    cases tqW f n e 0 with
    | true => rw [if_neg (by decide), sg_35_105 (hp1 := hu)]; rfl
    | false =>
      rw [if_pos (by decide), hw 1 (by decide)]
      simp only [zk_l, zk_r, Option.toList_some, Option.toList_none, List.cons_append, List.nil_append, zrokB, zrokB0, zrokB1, zrokJ0, zrokJ1, and_true, true_and, and_self, if_true, if_false, b2_0, b2_1, b2_not, ite_self]
      rw [sg_35_57 (hp1 := hu)]
      cases tqW f n e 1 with
      | true => rw [if_neg (by decide), sg_35_105 (hp1 := hu)]; rfl
      | false =>
        rw [if_pos (by decide), hw 2 (by decide)]
        simp only [zk_l, zk_r, Option.toList_some, Option.toList_none, List.cons_append, List.nil_append, zrokB, zrokB0, zrokB1, zrokJ0, zrokJ1, and_true, true_and, and_self, if_true, if_false, b2_0, b2_1, b2_not, ite_self]
        rw [sg_35_66 (hp1 := hu)]
        cases tqW f n e 2 with
        | true => rw [if_neg (by decide), sg_35_105 (hp1 := hu)]; rfl
        | false =>
          rw [if_pos (by decide), hw 3 (by decide)]
          simp only [zk_l, zk_r, Option.toList_some, Option.toList_none, List.cons_append, List.nil_append, zrokB, zrokB0, zrokB1, zrokJ0, zrokJ1, and_true, true_and, and_self, if_true, if_false, b2_0, b2_1, b2_not, ite_self]
          rw [sg_35_75 (hp1 := hu)]
          cases tqW f n e 3 with
          | true => rw [if_neg (by decide), sg_35_105 (hp1 := hu)]; rfl
          | false =>
            rw [if_pos (by decide), hw 4 (by decide)]
            simp only [zk_l, zk_r, Option.toList_some, Option.toList_none, List.cons_append, List.nil_append, zrokB, zrokB0, zrokB1, zrokJ0, zrokJ1, and_true, true_and, and_self, if_true, if_false, b2_0, b2_1, b2_not, ite_self]
            rw [sg_35_84 (hp1 := hu)]
            cases tqW f n e 4 with
            | true => rw [if_neg (by decide), sg_35_105 (hp1 := hu)]; rfl
            | false =>
              rw [if_pos (by decide), hw 5 (by decide)]
              simp only [zk_l, zk_r, Option.toList_some, Option.toList_none, List.cons_append, List.nil_append, zrokB, zrokB0, zrokB1, zrokJ0, zrokJ1, and_true, true_and, and_self, if_true, if_false, b2_0, b2_1, b2_not, ite_self]
              rw [sg_35_93 (hp1 := hu)]
              cases tqW f n e 5 with
              | true => rw [if_neg (by decide), sg_35_105 (hp1 := hu)]; rfl
              | false =>
                rw [if_pos (by decide), hw 6 (by decide)]
                simp only [zk_l, zk_r, Option.toList_some, Option.toList_none, List.cons_append, List.nil_append, zrokB, zrokB0, zrokB1, zrokJ0, zrokJ1, and_true, true_and, and_self, if_true, if_false, b2_0, b2_1, b2_not, ite_self]
                rw [sg_35_102 (hp1 := hu)]
                cases tqW f n e 6 with
                | true => rw [if_neg (by decide), sg_35_105 (hp1 := hu)]; rfl
                | false =>
                  rw [if_pos (by decide)]
                  rfl
  by_cases hn0 : tqN f n e = 0
  · have hpn : pNm f n s e = .inl (tqS f n e) := if_neg (fun h9 => h9.1 hn0)
    refine ⟨oI 0, J1, fun Q => ?_, j1f, hfail _ hpn⟩
    rcases tqN_0 e1 hn0 with h1 | ⟨hz, h1⟩
    · rw [R1, if_pos h1]
    · have hm1 : tqC f n e ≠ -1 := by
        obtain ⟨i, hi, h2⟩ := h1
        intro h9
        rw [h9] at h2
        have : ∀ i, i < 7 → cdW i ≠ -1 := by decide +kernel
        exact this i hi h2.symm
      rw [R2 Q hm1 (fndC_no hK hN (Or.inr h1)), fndG_no hK hN (Or.inr h1), R3, if_pos hz]
  · obtain ⟨c1, c2, c3, c4⟩ := tqN_n e1 hn0
    have hm1 : tqC f n e ≠ -1 := by omega
    by_cases hc : fndC s (tqN f n e) = -1
    · by_cases hg : fndG s (tqN f n e) = -1
      · obtain ⟨J2, r2, pc2, v2, f2⟩ := sp_39e (W := W) (J := J1) (f := f) (n := n) (e := tqE f n e) ht1 hp1.1 hp1.2.2.2 (by omega) (by omega)
        have hpn : pNm f n s e = .inr (tqN f n e, tqE f n e) := if_pos ⟨hn0, hc, hg⟩
        refine ⟨oI 1, J2, fun Q => ?_, fun r hr => (f2 r hr).trans (j1f r hr), ?_⟩
        · rw [R2 Q hm1 (by rw [c1]; exact hc), c1, hg, R3, if_neg (by rw [c3]; decide), r2]
          simp only [zk_l, zk_r, Option.toList_some, Option.toList_none, List.cons_append, List.nil_append, zrokB, zrokB0, zrokB1, zrokJ0, zrokJ1, and_true, true_and, and_self, if_true, if_false, b2_0, b2_1, b2_not, ite_self]
          rw [sg_35_111 (hp1 := hu)]
        · rw [hpn]
          refine ⟨rfl, pc2, ?_⟩
          rw [v2, ← c1]
          show jrow J 3 (sset (J 3) 5 (tqC f n e)) 3 5 = _
          rw [jrow_same, sset_eq rfl]
      · have hpn : pNm f n s e = .inl (tqS f n e) := if_neg (fun h9 => hg h9.2.2)
        refine ⟨oI 0, J1, fun Q => ?_, j1f, hfail _ hpn⟩
        have hg' : fndG s (tqC f n e) ≠ -1 := by rw [c1]; exact hg
        have bG' : -1 ≤ fndG s (tqC f n e) ∧ fndG s (tqC f n e) < 100 := bG
        rw [R2 Q hm1 (by rw [c1]; exact hc), sg_35_36 (hp1 := hu), if_neg (by rw [jI_eq (by omega) (by omega) (by omega) (by omega)]; exact hg'), sg_35_40 (hp1 := hu)]
    · have hpn : pNm f n s e = .inl (tqS f n e) := if_neg (fun h9 => hc h9.2.1)
      refine ⟨oI 0, J1, fun Q => ?_, j1f, hfail _ hpn⟩
      have hc' : fndC s (tqC f n e) ≠ -1 := by rw [c1]; exact hc
      have bC' : -1 ≤ fndC s (tqC f n e) ∧ fndC s (tqC f n e) < 100 := bC
      rw [R1, if_neg hm1, sg_35_24 (hp1 := hu), if_neg (by rw [jI_eq (by omega) (by omega) (by omega) (by omega)]; exact hc'), sg_35_40 (hp1 := hu)]
/-- chamberName -/
theorem sp_36 (hu : zStp u) (u5 : 5 ≤ u) (ht : txt (J 2) f n) (hp : PC f n J e) (e0 : 0 ≤ e) (e1 : e ≤ n) (hR : RP J u s hl hq) (hO : okR s hl hq) :
    ∃ o J', (∀ Q : zO → zI → Prop, wz W 36 0 [.ref 3, .ref u] [] (jm J) Q = Q o (jm J')) ∧ (∀ r, r ≠ 3 → J' r = J r) ∧ cRs f n J' o (pCn f n s e) := by
  obtain ⟨hK, hN, -⟩ := hO
  obtain ⟨x1, x2, x3, x4, x5, x6, x7, x8, x9, x10, x11, x12⟩ := hK.1
  have hC := tqC_b f n e
  have hS := tqS_b (f := f) e1
  have hE := tqE_b (f := f) e1
  have bC : -1 ≤ fndC s (tqC f n e) ∧ fndC s (tqC f n e) < 100 := fnd_b2 (fun i : Nat => s (12 + 8 * (i : Int))) (c := s 4) (nm := tqC f n e) (by omega)
  have hq := fndC_q (f := f) (n := n) (e := e) hK hN e1
  let J1 : zJ := jrow J 3 (sset (J 3) 5 (fndC s (tqC f n e)))
  have j1f : ∀ r, r ≠ 3 → J1 r = J r := fun r hr => jrow_ne hr
  have hp1 : PC f n J1 e := PC_5 hp
  have ht1 : txt (J1 2) f n := by rw [j1f 2 (by decide)]; exact ht
  have R1 : ∀ Q : zO → zI → Prop, wz W 36 0 [.ref 3, .ref u] [] (jm J) Q = (if fndC s (tqC f n e) = -1 then Q (oI 0) (jm J1) else wz W 39 0 [.ref 3] [] (jm J1) (zk Q (fun v I1 => wz W 36 26 [.ref 3, .ref u] (v.toList ++ []) I1 Q))) := by
    intro Q
    rw [sg_36_0 (hp1 := hu), sp_43 ht hp e0 e1]
    simp only [zk_l, zk_r, Option.toList_some, Option.toList_none, List.cons_append, List.nil_append, zrokB, zrokB0, zrokB1, zrokJ0, zrokJ1, and_true, true_and, and_self, if_true, if_false, b2_0, b2_1, b2_not, ite_self]
    rw [sg_36_6 (hp1 := hu), sp_55r hu hR hK (by omega) (by omega)]
    simp only [zk_l, zk_r, Option.toList_some, Option.toList_none, List.cons_append, List.nil_append, zrokB, zrokB0, zrokB1, zrokJ0, zrokJ1, and_true, true_and, and_self, if_true, if_false, b2_0, b2_1, b2_not, ite_self]
    rw [sg_36_9 (hp1 := hu)]
    simp (disch := first | assumption | omega) only [jm_n, jz_n, i_lit, jrow_same, sset_eq, jI_eq]
    rfl
  by_cases h : tqN f n e ≠ 0 ∧ fndC s (tqN f n e) ≠ -1
  · rw [if_pos h.1] at hq
    obtain ⟨J2, r2, pc2, v2, f2⟩ := sp_39e (W := W) (J := J1) (f := f) (n := n) (e := tqE f n e) ht1 hp1.1 hp1.2.2.2 (by omega) (by omega)
    have hpn : pCn f n s e = .inr (fndC s (tqN f n e), tqE f n e) := if_pos h
    refine ⟨oI 1, J2, fun Q => ?_, fun r hr => (f2 r hr).trans (j1f r hr), ?_⟩
    · rw [R1, if_neg (by rw [hq]; exact h.2), r2]
      simp only [zk_l, zk_r, Option.toList_some, Option.toList_none, List.cons_append, List.nil_append, zrokB, zrokB0, zrokB1, zrokJ0, zrokJ1, and_true, true_and, and_self, if_true, if_false, b2_0, b2_1, b2_not, ite_self]
      rw [sg_36_26 (hp1 := hu)]
    · rw [hpn]
      refine ⟨rfl, pc2, ?_⟩
      rw [v2, ← hq]
      show jrow J 3 (sset (J 3) 5 (fndC s (tqC f n e))) 3 5 = _
      rw [jrow_same, sset_eq rfl]
  · have hm : fndC s (tqC f n e) = -1 := by
      rw [hq]
      by_cases h1 : tqN f n e = 0
      · rw [if_neg (fun h9 => h9 h1)]
      · rw [if_pos h1]
        exact Classical.byContradiction (fun h2 => h ⟨h1, h2⟩)
    have hpn : pCn f n s e = .inl (tqS f n e) := if_neg h
    refine ⟨oI 0, J1, fun Q => ?_, j1f, ?_⟩
    · rw [R1, if_pos hm]
    · rw [hpn]
      exact ⟨rfl, hp1.2.2.1, hp1.1⟩
/-- goodsName -/
theorem sp_37 (hu : zStp u) (u5 : 5 ≤ u) (ht : txt (J 2) f n) (hp : PC f n J e) (e0 : 0 ≤ e) (e1 : e ≤ n) (hR : RP J u s hl hq) (hO : okR s hl hq) :
    ∃ o J', (∀ Q : zO → zI → Prop, wz W 37 0 [.ref 3, .ref u] [] (jm J) Q = Q o (jm J')) ∧ (∀ r, r ≠ 3 → J' r = J r) ∧ cRs f n J' o (pGn f n s e) := by
  obtain ⟨hK, hN, -⟩ := hO
  obtain ⟨x1, x2, x3, x4, x5, x6, x7, x8, x9, x10, x11, x12⟩ := hK.1
  have hC := tqC_b f n e
  have hS := tqS_b (f := f) e1
  have hE := tqE_b (f := f) e1
  have bC : -1 ≤ fndG s (tqC f n e) ∧ fndG s (tqC f n e) < 100 := fnd_b2 (fun i : Nat => s (36 + 6 * (i : Int))) (c := s 5) (nm := tqC f n e) (by omega)
  have hq := fndG_q (f := f) (n := n) (e := e) hK hN e1
  let J1 : zJ := jrow J 3 (sset (J 3) 5 (fndG s (tqC f n e)))
  have j1f : ∀ r, r ≠ 3 → J1 r = J r := fun r hr => jrow_ne hr
  have hp1 : PC f n J1 e := PC_5 hp
  have ht1 : txt (J1 2) f n := by rw [j1f 2 (by decide)]; exact ht
  have R1 : ∀ Q : zO → zI → Prop, wz W 37 0 [.ref 3, .ref u] [] (jm J) Q = (if fndG s (tqC f n e) = -1 then Q (oI 0) (jm J1) else wz W 39 0 [.ref 3] [] (jm J1) (zk Q (fun v I1 => wz W 37 26 [.ref 3, .ref u] (v.toList ++ []) I1 Q))) := by
    intro Q
    rw [sg_37_0 (hp1 := hu), sp_43 ht hp e0 e1]
    simp only [zk_l, zk_r, Option.toList_some, Option.toList_none, List.cons_append, List.nil_append, zrokB, zrokB0, zrokB1, zrokJ0, zrokJ1, and_true, true_and, and_self, if_true, if_false, b2_0, b2_1, b2_not, ite_self]
    rw [sg_37_6 (hp1 := hu), sp_54r hu hR hK (by omega) (by omega)]
    simp only [zk_l, zk_r, Option.toList_some, Option.toList_none, List.cons_append, List.nil_append, zrokB, zrokB0, zrokB1, zrokJ0, zrokJ1, and_true, true_and, and_self, if_true, if_false, b2_0, b2_1, b2_not, ite_self]
    rw [sg_37_9 (hp1 := hu)]
    simp (disch := first | assumption | omega) only [jm_n, jz_n, i_lit, jrow_same, sset_eq, jI_eq]
    rfl
  by_cases h : tqN f n e ≠ 0 ∧ fndG s (tqN f n e) ≠ -1
  · rw [if_pos h.1] at hq
    obtain ⟨J2, r2, pc2, v2, f2⟩ := sp_39e (W := W) (J := J1) (f := f) (n := n) (e := tqE f n e) ht1 hp1.1 hp1.2.2.2 (by omega) (by omega)
    have hpn : pGn f n s e = .inr (fndG s (tqN f n e), tqE f n e) := if_pos h
    refine ⟨oI 1, J2, fun Q => ?_, fun r hr => (f2 r hr).trans (j1f r hr), ?_⟩
    · rw [R1, if_neg (by rw [hq]; exact h.2), r2]
      simp only [zk_l, zk_r, Option.toList_some, Option.toList_none, List.cons_append, List.nil_append, zrokB, zrokB0, zrokB1, zrokJ0, zrokJ1, and_true, true_and, and_self, if_true, if_false, b2_0, b2_1, b2_not, ite_self]
      rw [sg_37_26 (hp1 := hu)]
    · rw [hpn]
      refine ⟨rfl, pc2, ?_⟩
      rw [v2, ← hq]
      show jrow J 3 (sset (J 3) 5 (fndG s (tqC f n e))) 3 5 = _
      rw [jrow_same, sset_eq rfl]
  · have hm : fndG s (tqC f n e) = -1 := by
      rw [hq]
      by_cases h1 : tqN f n e = 0
      · rw [if_neg (fun h9 => h9 h1)]
      · rw [if_pos h1]
        exact Classical.byContradiction (fun h2 => h ⟨h1, h2⟩)
    have hpn : pGn f n s e = .inl (tqS f n e) := if_neg h
    refine ⟨oI 0, J1, fun Q => ?_, j1f, ?_⟩
    · rw [R1, if_pos hm]
    · rw [hpn]
      exact ⟨rfl, hp1.2.2.1, hp1.1⟩
/-- what the parts of statements answer -/
theorem pNm_e {e' v : Int} (e1 : e ≤ n) (h : pNm f n s e = .inr (v, e')) : e ≤ e' ∧ e' ≤ n ∧ 1 ≤ v ∧ v < 1073741824 ∧ ∀ i, i < 7 → v ≠ cdW i := by
  have hS := tqS_b (f := f) e1
  have hE := tqE_b (f := f) e1
  have hb := tqN_b (f := f) e1
  unfold pNm at h
  split at h
  · rename_i q
    cases h
    have h2 := tqN_n e1 q.1
    exact ⟨by omega, by omega, h2.2.1, hb.2, h2.2.2.2⟩
  · cases h
theorem pCn_e {e' v : Int} (e1 : e ≤ n) (h : pCn f n s e = .inr (v, e')) : e ≤ e' ∧ e' ≤ n ∧ 0 ≤ v ∧ v < s 4 := by
  have hS := tqS_b (f := f) e1
  have hE := tqE_b (f := f) e1
  unfold pCn at h
  split at h
  · rename_i q
    cases h
    rcases fnd_b (fun i : Nat => s (12 + 8 * (i : Int))) (s 4) (tqN f n e) with h1 | ⟨h1, h2, -⟩
    · exact absurd h1 q.2
    · exact ⟨by omega, by omega, h1, h2⟩
  · cases h
theorem pGn_e {e' v : Int} (e1 : e ≤ n) (h : pGn f n s e = .inr (v, e')) : e ≤ e' ∧ e' ≤ n ∧ 0 ≤ v ∧ v < s 5 := by
  have hS := tqS_b (f := f) e1
  have hE := tqE_b (f := f) e1
  unfold pGn at h
  split at h
  · rename_i q
    cases h
    rcases fnd_b (fun i : Nat => s (36 + 6 * (i : Int))) (s 5) (tqN f n e) with h1 | ⟨h1, h2, -⟩
    · exact absurd h1 q.2
    · exact ⟨by omega, by omega, h1, h2⟩
  · cases h
end
