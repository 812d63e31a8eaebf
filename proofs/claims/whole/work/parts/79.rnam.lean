/-! ===== the reference: names and statements ===== -/
/-- what statements leave alone -/
def fT (T T' : zJ) : Prop := (∀ r, r ≠ 353 → r ≠ 356 → T' r = T r) ∧ ∀ i, (i < 3 ∨ 13 ≤ i) → T' 353 i = T 353 i
theorem fT_refl (T : zJ) : fT T T := ⟨fun _ _ _ => rfl, fun _ _ => rfl⟩
theorem fT_t {T T1 T2 : zJ} (h : fT T T1) (g : fT T1 T2) : fT T T2 := ⟨fun r a b => (g.1 r a b).trans (h.1 r a b), fun i hi => (g.2 i hi).trans (h.2 i hi)⟩
theorem fT_f {T T' : zJ} (h : frT T T') : fT T T' := ⟨fun r a _ => h.1 r a, fun i hi => h.2 i (by omega)⟩
theorem fT_356 {T : zJ} {g : Int → Int} : fT T (jrow T 356 g) := ⟨fun r _ b => jrow_ne b, fun i hi => by rw [jrow_ne (by decide)]⟩
def rSt (f : Int → Int) (n : Int) (J' : zJ) (r : Int ⊕ (pSt × Int)) : Prop := match r with
  | .inl p => J' 353 7 = p
  | .inr (s, e') => PR f n J' e' ∧ J' 356 = s.1 ∧ J' 353 11 = s.2.1 ∧ J' 353 12 = s.2.2
theorem PR_r {f : Int → Int} {n e : Int} {J J' : zJ} (h : PR f n J e) (h3 : ∀ i, 2 ≤ i → i ≤ 7 → J' 353 i = J 353 i) : PR f n J' e := by
  obtain ⟨p2, p3, p4, p5, p6, p7⟩ := h
  refine ⟨by rw [h3 2 (by decide) (by decide)]; exact p2, by rw [h3 3 (by decide) (by decide)]; exact p3, by rw [h3 4 (by decide) (by decide)]; exact p4, by rw [h3 5 (by decide) (by decide)]; exact p5, fun h => by rw [h3 6 (by decide) (by decide)]; exact p6 h, by rw [h3 7 (by decide) (by decide)]; exact p7⟩
theorem PR_356 {f : Int → Int} {n e : Int} {J : zJ} {g : Int → Int} (h : PR f n J e) : PR f n (jrow J 356 g) e := PR_r h (fun i _ _ => by rw [jrow_ne (by decide)])
theorem pNm_l {f : Int → Int} {n e p : Int} {s : Int → Int} (e0 : 0 ≤ e) (e1 : e ≤ n) (h : pNm f n s e = .inl p) : 0 ≤ p ∧ p ≤ n := by
  have hS := tqS_b (f := f) e1
  unfold pNm at h
  split at h
  · cases h
  · cases h; omega
theorem pCn_l {f : Int → Int} {n e p : Int} {s : Int → Int} (e0 : 0 ≤ e) (e1 : e ≤ n) (h : pCn f n s e = .inl p) : 0 ≤ p ∧ p ≤ n := by
  have hS := tqS_b (f := f) e1
  unfold pCn at h
  split at h
  · cases h
  · cases h; omega
theorem pGn_l {f : Int → Int} {n e p : Int} {s : Int → Int} (e0 : 0 ≤ e) (e1 : e ≤ n) (h : pGn f n s e = .inl p) : 0 ≤ p ∧ p ≤ n := by
  have hS := tqS_b (f := f) e1
  unfold pGn at h
  split at h
  · cases h
  · cases h; omega
section
variable {W : zW} {J : zJ} {Q : zO → zI → Prop} {f : Int → Int} {n e : Int} {s : Int → Int} {hl hq : Int}
theorem sp_198 {nm : Int} (hs : J 356 = s) (c0 : 0 ≤ s 4) (c6 : s 4 ≤ 3) (hg : ∀ i : Nat, (i : Int) < s 4 → 0 ≤ s (12 + 8 * (i : Int)) ∧ s (12 + 8 * (i : Int)) < 1073741824) (m0 : -1 ≤ nm) (m1 : nm < 1073741824) : wz W 198 0 [.ref 353, .int (jI nm), .float 0] [] (jm J) Q = Q (oI (fndC s nm)) (jm J) := by
  have hle := zfst_le (fun i : Nat => decide (s (12 + 8 * (i : Int)) = nm)) (s 4).toNat
  have ec : jm J 356 (jI 4).toNatClampNeg = jI (s 4) := by
    rw [jI_cl (by decide) (by decide)]
    show jI (J 356 4) = _
    rw [hs]
  have key := zloops (f := fun k : Nat => wz W 198 2 [.ref 353, .int (jI nm), .int (jI k)] [] (jm J) Q) (fun i : Nat => decide (s (12 + 8 * (i : Int)) = nm)) (s 4).toNat (fun k hk hcc => by
    have hcc : ¬ s (12 + 8 * (k : Int)) = nm := by simpa using hcc
    obtain ⟨g2, g3⟩ := hg k (by omega)
    try simp only
    rw [sg_198_2, ec]
    simp (disch := first | assumption | omega) only [hs, zk_l, zk_r, Option.toList_some, Option.toList_none, List.cons_append, List.nil_append, zrokB, zrokB0, zrokB1, zrokJ0, zrokJ1, and_true, true_and, and_self, if_true, if_false, b2_0, b2_1, b2_not, ite_self, Int.add_zero, jI_nat, jI_add, jI_sub, jI_mul, jI_neg, jI_lt, jI_le, jI_eq, jI_lt0, jI_0lt, jI_le0, jI_0le, jI_eq0, jI_in, jI_dv, i_mod, jI_cl, jm_n, jz_n, i_lit, i_c0, i_c1, Int.toNat_of_nonneg, Int.toNat_natCast, jrow_same, jrow_ne, jrow_jrow, sset_eq, sset_ne]
    rw [if_neg (by omega), if_neg hcc]
    rfl)
  rw [sg_198_0]
  refine Eq.trans key ?_
  try simp only
  unfold fndC fnd
  rw [sg_198_2, ec]
  by_cases q : zfst (fun i : Nat => decide (s (12 + 8 * (i : Int)) = nm)) (s 4).toNat < (s 4).toNat
  · have hy := zfst_yes (fun i : Nat => decide (s (12 + 8 * (i : Int)) = nm)) (s 4).toNat q
    have hy : s (12 + 8 * ((zfst (fun i : Nat => decide (s (12 + 8 * (i : Int)) = nm)) (s 4).toNat : Nat) : Int)) = nm := by simpa using hy
    obtain ⟨g2, g3⟩ := hg (zfst (fun i : Nat => decide (s (12 + 8 * (i : Int)) = nm)) (s 4).toNat) (by omega)
    generalize zfst (fun i : Nat => decide (s (12 + 8 * (i : Int)) = nm)) (s 4).toNat = z at *
    simp (disch := first | assumption | omega) only [hs, zk_l, zk_r, Option.toList_some, Option.toList_none, List.cons_append, List.nil_append, zrokB, zrokB0, zrokB1, zrokJ0, zrokJ1, and_true, true_and, and_self, if_true, if_false, b2_0, b2_1, b2_not, ite_self, Int.add_zero, jI_nat, jI_add, jI_sub, jI_mul, jI_neg, jI_lt, jI_le, jI_eq, jI_lt0, jI_0lt, jI_le0, jI_0le, jI_eq0, jI_in, jI_dv, i_mod, jI_cl, jm_n, jz_n, i_lit, i_c0, i_c1, Int.toNat_of_nonneg, Int.toNat_natCast, jrow_same, jrow_ne, jrow_jrow, sset_eq, sset_ne]
    rw [if_neg (by omega), if_pos hy, if_pos q]
  · rw [if_neg q]
    generalize zfst (fun i : Nat => decide (s (12 + 8 * (i : Int)) = nm)) (s 4).toNat = z at *
    rw [if_pos (by rw [jI_le (by omega) (by omega) (by omega) (by omega)]; omega), jI_in (by decide) (by decide) (by decide)]
    simp only [true_and]
theorem sp_199 {nm : Int} (hs : J 356 = s) (c0 : 0 ≤ s 5) (c6 : s 5 ≤ 6) (hg : ∀ i : Nat, (i : Int) < s 5 → 0 ≤ s (36 + 6 * (i : Int)) ∧ s (36 + 6 * (i : Int)) < 1073741824) (m0 : -1 ≤ nm) (m1 : nm < 1073741824) : wz W 199 0 [.ref 353, .int (jI nm), .float 0] [] (jm J) Q = Q (oI (fndG s nm)) (jm J) := by
  have hle := zfst_le (fun i : Nat => decide (s (36 + 6 * (i : Int)) = nm)) (s 5).toNat
  have ec : jm J 356 (jI 5).toNatClampNeg = jI (s 5) := by
    rw [jI_cl (by decide) (by decide)]
    show jI (J 356 5) = _
    rw [hs]
  have key := zloops (f := fun k : Nat => wz W 199 2 [.ref 353, .int (jI nm), .int (jI k)] [] (jm J) Q) (fun i : Nat => decide (s (36 + 6 * (i : Int)) = nm)) (s 5).toNat (fun k hk hcc => by
    have hcc : ¬ s (36 + 6 * (k : Int)) = nm := by simpa using hcc
    obtain ⟨g2, g3⟩ := hg k (by omega)
    try simp only
    rw [sg_199_2, ec]
    simp (disch := first | assumption | omega) only [hs, zk_l, zk_r, Option.toList_some, Option.toList_none, List.cons_append, List.nil_append, zrokB, zrokB0, zrokB1, zrokJ0, zrokJ1, and_true, true_and, and_self, if_true, if_false, b2_0, b2_1, b2_not, ite_self, Int.add_zero, jI_nat, jI_add, jI_sub, jI_mul, jI_neg, jI_lt, jI_le, jI_eq, jI_lt0, jI_0lt, jI_le0, jI_0le, jI_eq0, jI_in, jI_dv, i_mod, jI_cl, jm_n, jz_n, i_lit, i_c0, i_c1, Int.toNat_of_nonneg, Int.toNat_natCast, jrow_same, jrow_ne, jrow_jrow, sset_eq, sset_ne]
    rw [if_neg (by omega), if_neg hcc]
    rfl)
  rw [sg_199_0]
  refine Eq.trans key ?_
  try simp only
  unfold fndG fnd
  rw [sg_199_2, ec]
  by_cases q : zfst (fun i : Nat => decide (s (36 + 6 * (i : Int)) = nm)) (s 5).toNat < (s 5).toNat
  · have hy := zfst_yes (fun i : Nat => decide (s (36 + 6 * (i : Int)) = nm)) (s 5).toNat q
    have hy : s (36 + 6 * ((zfst (fun i : Nat => decide (s (36 + 6 * (i : Int)) = nm)) (s 5).toNat : Nat) : Int)) = nm := by simpa using hy
    obtain ⟨g2, g3⟩ := hg (zfst (fun i : Nat => decide (s (36 + 6 * (i : Int)) = nm)) (s 5).toNat) (by omega)
    generalize zfst (fun i : Nat => decide (s (36 + 6 * (i : Int)) = nm)) (s 5).toNat = z at *
    simp (disch := first | assumption | omega) only [hs, zk_l, zk_r, Option.toList_some, Option.toList_none, List.cons_append, List.nil_append, zrokB, zrokB0, zrokB1, zrokJ0, zrokJ1, and_true, true_and, and_self, if_true, if_false, b2_0, b2_1, b2_not, ite_self, Int.add_zero, jI_nat, jI_add, jI_sub, jI_mul, jI_neg, jI_lt, jI_le, jI_eq, jI_lt0, jI_0lt, jI_le0, jI_0le, jI_eq0, jI_in, jI_dv, i_mod, jI_cl, jm_n, jz_n, i_lit, i_c0, i_c1, Int.toNat_of_nonneg, Int.toNat_natCast, jrow_same, jrow_ne, jrow_jrow, sset_eq, sset_ne]
    rw [if_neg (by omega), if_pos hy, if_pos q]
  · rw [if_neg q]
    generalize zfst (fun i : Nat => decide (s (36 + 6 * (i : Int)) = nm)) (s 5).toNat = z at *
    rw [if_pos (by rw [jI_le (by omega) (by omega) (by omega) (by omega)]; omega), jI_in (by decide) (by decide) (by decide)]
    simp only [true_and]
theorem sp_198r {nm : Int} (hs : J 356 = s) (hK : okK s) (m0 : -1 ≤ nm) (m1 : nm < 1073741824) : wz W 198 0 [.ref 353, .int (jI nm), .float 0] [] (jm J) Q = Q (oI (fndC s nm)) (jm J) := by
  obtain ⟨x1, x2, x3, x4, x5, x6, x7, x8, x9, x10, x11, x12⟩ := hK.1
  refine sp_198 hs x7 x8 (fun i hi => ?_) m0 m1
  have h2 := (hK.2.1 i (by omega) hi).2.2.2.2
  omega
theorem sp_199r {nm : Int} (hs : J 356 = s) (hK : okK s) (m0 : -1 ≤ nm) (m1 : nm < 1073741824) : wz W 199 0 [.ref 353, .int (jI nm), .float 0] [] (jm J) Q = Q (oI (fndG s nm)) (jm J) := by
  obtain ⟨x1, x2, x3, x4, x5, x6, x7, x8, x9, x10, x11, x12⟩ := hK.1
  refine sp_199 hs x9 x10 (fun i hi => ?_) m0 m1
  have h2 := (hK.2.2.1 i (by omega) hi).2.2.2.2.2.2.2.2.2
  omega
/-- newName -/
theorem sp_200g (ht : txt (J 354) f n) (hp : PR f n J e) (e0 : 0 ≤ e) (e1 : e ≤ n) (hs : J 356 = s) (hK : okK s) :
    ∃ o J', (∀ Q : zO → zI → Prop, wz W 200 0 [.ref 353, .float 0] [] (jm J) Q = Q o (jm J')) ∧ frT J J' ∧ rRs f n J' o (pNm f n s e) := by
  have hp' := hp
  obtain ⟨p2, p3, p4, p5, p6, p7⟩ := hp'
  obtain ⟨x1, x2, x3, x4, x5, x6, x7, x8, x9, x10, x11, x12⟩ := hK.1
  have hN := tqN_b (f := f) e1
  have hS := tqS_b (f := f) e1
  have hE := tqE_b (f := f) e1
  have bC : -1 ≤ fndC s (tqN f n e) ∧ fndC s (tqN f n e) < 100 := fnd_b2 (fun i : Nat => s (12 + 8 * (i : Int))) (c := s 4) (nm := tqN f n e) (by omega)
  have bG : -1 ≤ fndG s (tqN f n e) ∧ fndG s (tqN f n e) < 100 := fnd_b2 (fun i : Nat => s (36 + 6 * (i : Int))) (c := s 5) (nm := tqN f n e) (by omega)
  have hbad : ∀ Q : zO → zI → Prop, wz W 200 25 [.ref 353, .int (jI (tqN f n e))] [] (jm J) Q = Q (oI 0) (jm (jrow J 353 (sset (J 353) 7 (tqS f n e)))) := by
    intro Q
    rw [sg_200_25, sp_186g hp]
    simp only [zk_l, zk_r, Option.toList_some, Option.toList_none, List.cons_append, List.nil_append, zrokB, zrokB0, zrokB1, zrokJ0, zrokJ1, and_true, true_and, and_self, if_true, if_false, b2_0, b2_1, b2_not, ite_self]
    rw [sg_200_29]
  have fbad : frT J (jrow J 353 (sset (J 353) 7 (tqS f n e))) := frT_row (fun i hi => sset_ne (by omega))
  have rbad : ∀ r : Int ⊕ (Int × Int), r = .inl (tqS f n e) → rRs f n (jrow J 353 (sset (J 353) 7 (tqS f n e))) (oI 0) r := fun r hr => by
    rw [hr]
    exact ⟨rfl, by rw [jrow_same, sset_eq rfl]⟩
  have R1 : ∀ Q : zO → zI → Prop, wz W 200 0 [.ref 353, .float 0] [] (jm J) Q = (if tqN f n e = 0 then Q (oI 0) (jm (jrow J 353 (sset (J 353) 7 (tqS f n e)))) else wz W 200 14 [.ref 353, .int (jI (tqN f n e))] [.int (jI (fndC s (tqN f n e)))] (jm J) Q) := by
    intro Q
    rw [sg_200_0, sp_194g ht hp e0 e1]
    simp only [zk_l, zk_r, Option.toList_some, Option.toList_none, List.cons_append, List.nil_append, zrokB, zrokB0, zrokB1, zrokJ0, zrokJ1, and_true, true_and, and_self, if_true, if_false, b2_0, b2_1, b2_not, ite_self]
    rw [sg_200_4, ifE0 (by omega) (by omega)]
    by_cases c : tqN f n e = 0
    · rw [if_pos c, if_pos c, hbad]
    · rw [if_neg c, if_neg c, sp_198r hs hK (by omega) (by omega)]
      simp only [zk_l, zk_r, Option.toList_some, Option.toList_none, List.cons_append, List.nil_append, zrokB, zrokB0, zrokB1, zrokJ0, zrokJ1, and_true, true_and, and_self, if_true, if_false, b2_0, b2_1, b2_not, ite_self]
  by_cases c : tqN f n e = 0
  · refine ⟨oI 0, _, fun Q => ?_, fbad, rbad _ (if_neg (fun h9 => h9.1 c))⟩
    rw [R1, if_pos c]
  · by_cases hc : fndC s (tqN f n e) = -1
    · have R2 : ∀ Q : zO → zI → Prop, wz W 200 0 [.ref 353, .float 0] [] (jm J) Q = wz W 200 22 [.ref 353, .int (jI (tqN f n e))] [.int (jI (fndG s (tqN f n e)))] (jm J) Q := by
        intro Q
        rw [R1, if_neg c, sg_200_14, hc, if_neg (by decide), sp_199r hs hK (by omega) (by omega)]
        simp only [zk_l, zk_r, Option.toList_some, Option.toList_none, List.cons_append, List.nil_append, zrokB, zrokB0, zrokB1, zrokJ0, zrokJ1, and_true, true_and, and_self, if_true, if_false, b2_0, b2_1, b2_not, ite_self]
      by_cases hg : fndG s (tqN f n e) = -1
      · obtain ⟨J2, r2, pr2, fr2⟩ := sp_185 (W := W) (J := J) (f := f) (n := n) (e := tqE f n e) ht p2 p3 p7 (by omega) (by omega)
        have hpn : pNm f n s e = .inr (tqN f n e, tqE f n e) := if_pos ⟨c, hc, hg⟩
        refine ⟨oI (tqN f n e), J2, fun Q => ?_, fr2, ?_⟩
        · rw [R2, hg, sg_200_22, if_pos (by decide), r2]
          simp only [zk_l, zk_r, Option.toList_some, Option.toList_none, List.cons_append, List.nil_append, zrokB, zrokB0, zrokB1, zrokJ0, zrokJ1, and_true, true_and, and_self, if_true, if_false, b2_0, b2_1, b2_not, ite_self]
          rw [sg_200_35]
        · rw [hpn]
          exact ⟨rfl, pr2⟩
      · refine ⟨oI 0, _, fun Q => ?_, fbad, rbad _ (if_neg (fun h9 => hg h9.2.2))⟩
        rw [R2, sg_200_22, if_neg (by rw [jI_lt0 (by omega) (by omega)]; omega), hbad]
    · refine ⟨oI 0, _, fun Q => ?_, fbad, rbad _ (if_neg (fun h9 => hc h9.2.1))⟩
      rw [R1, if_neg c, sg_200_14, if_pos (by rw [jI_0le (by omega) (by omega)]; omega), hbad]
theorem sp_200b (h : 0 ≤ J 353 7) (h9 : J 353 7 ≤ 900) : wz W 200 0 [.ref 353, .float 0] [] (jm J) Q = Q (oI 0) (jm J) := by
  rw [sg_200_0, sp_194b h h9]
  simp only [zk_l, zk_r, Option.toList_some, Option.toList_none, List.cons_append, List.nil_append, zrokB, zrokB0, zrokB1, zrokJ0, zrokJ1, and_true, true_and, and_self, if_true, if_false, b2_0, b2_1, b2_not, ite_self]
  rw [sg_200_4, if_pos (by decide), sg_200_25, sp_186b h h9]
  simp only [zk_l, zk_r, Option.toList_some, Option.toList_none, List.cons_append, List.nil_append, zrokB, zrokB0, zrokB1, zrokJ0, zrokJ1, and_true, true_and, and_self, if_true, if_false, b2_0, b2_1, b2_not, ite_self]
  rw [sg_200_29]
/-- takeChamber -/
theorem sp_201g (ht : txt (J 354) f n) (hp : PR f n J e) (e0 : 0 ≤ e) (e1 : e ≤ n) (hs : J 356 = s) (hK : okK s) :
    ∃ o J', (∀ Q : zO → zI → Prop, wz W 201 0 [.ref 353, .float 0, .float 0] [] (jm J) Q = Q o (jm J')) ∧ frT J J' ∧ rRs f n J' o (pCn f n s e) := by
  have hp' := hp
  obtain ⟨p2, p3, p4, p5, p6, p7⟩ := hp'
  obtain ⟨x1, x2, x3, x4, x5, x6, x7, x8, x9, x10, x11, x12⟩ := hK.1
  have hN := tqN_b (f := f) e1
  have hS := tqS_b (f := f) e1
  have hE := tqE_b (f := f) e1
  have bC : -1 ≤ fndC s (tqN f n e) ∧ fndC s (tqN f n e) < 100 := fnd_b2 (fun i : Nat => s (12 + 8 * (i : Int))) (c := s 4) (nm := tqN f n e) (by omega)
  let kk : Int := if tqN f n e = 0 then -1 else fndC s (tqN f n e)
  have bk : -1 ≤ kk ∧ kk < 100 := by
    show -1 ≤ (if tqN f n e = 0 then -1 else fndC s (tqN f n e)) ∧ (if tqN f n e = 0 then -1 else fndC s (tqN f n e)) < 100
    split <;> omega
  have R1 : ∀ Q : zO → zI → Prop, wz W 201 0 [.ref 353, .float 0, .float 0] [] (jm J) Q = wz W 201 18 [.ref 353, .int (jI (tqN f n e)), .float 0] [.int (jI kk)] (jm J) Q := by
    intro Q
    rw [sg_201_0, sp_194g ht hp e0 e1]
    simp only [zk_l, zk_r, Option.toList_some, Option.toList_none, List.cons_append, List.nil_append, zrokB, zrokB0, zrokB1, zrokJ0, zrokJ1, and_true, true_and, and_self, if_true, if_false, b2_0, b2_1, b2_not, ite_self]
    rw [sg_201_4, ifE0 (by omega) (by omega)]
    show _ = wz W 201 18 _ [.int (jI (if tqN f n e = 0 then -1 else fndC s (tqN f n e)))] _ _
    by_cases c : tqN f n e = 0
    · rw [if_pos c, if_pos c]
    · rw [if_neg c, if_neg c, sp_198r hs hK (by omega) (by omega)]
      simp only [zk_l, zk_r, Option.toList_some, Option.toList_none, List.cons_append, List.nil_append, zrokB, zrokB0, zrokB1, zrokJ0, zrokJ1, and_true, true_and, and_self, if_true, if_false, b2_0, b2_1, b2_not, ite_self]
  by_cases c : tqN f n e ≠ 0 ∧ fndC s (tqN f n e) ≠ -1
  · have ek : kk = fndC s (tqN f n e) := if_neg c.1
    obtain ⟨J2, r2, pr2, fr2⟩ := sp_185 (W := W) (J := J) (f := f) (n := n) (e := tqE f n e) ht p2 p3 p7 (by omega) (by omega)
    have hpn : pCn f n s e = .inr (fndC s (tqN f n e), tqE f n e) := if_pos c
    refine ⟨oI (fndC s (tqN f n e)), J2, fun Q => ?_, fr2, ?_⟩
    · rw [R1, sg_201_18, ek, if_pos (by rw [jI_0le (by omega) (by omega)]; omega), r2]
      simp only [zk_l, zk_r, Option.toList_some, Option.toList_none, List.cons_append, List.nil_append, zrokB, zrokB0, zrokB1, zrokJ0, zrokJ1, and_true, true_and, and_self, if_true, if_false, b2_0, b2_1, b2_not, ite_self]
      rw [sg_201_33]
    · rw [hpn]
      exact ⟨rfl, pr2⟩
  · have ek : kk = -1 := by
      show (if tqN f n e = 0 then -1 else fndC s (tqN f n e)) = -1
      by_cases h1 : tqN f n e = 0
      · rw [if_pos h1]
      · rw [if_neg h1]
        exact Classical.byContradiction (fun h2 => c ⟨h1, h2⟩)
    have hpn : pCn f n s e = .inl (tqS f n e) := if_neg c
    refine ⟨oI 0, jrow J 353 (sset (J 353) 7 (tqS f n e)), fun Q => ?_, frT_row (fun i hi => sset_ne (by omega)), ?_⟩
    · rw [R1, sg_201_18, ek, if_neg (by decide), sp_186g hp]
      simp only [zk_l, zk_r, Option.toList_some, Option.toList_none, List.cons_append, List.nil_append, zrokB, zrokB0, zrokB1, zrokJ0, zrokJ1, and_true, true_and, and_self, if_true, if_false, b2_0, b2_1, b2_not, ite_self]
      rw [sg_201_27]
    · rw [hpn]
      exact ⟨rfl, by rw [jrow_same, sset_eq rfl]⟩
theorem sp_201b (h : 0 ≤ J 353 7) (h9 : J 353 7 ≤ 900) : wz W 201 0 [.ref 353, .float 0, .float 0] [] (jm J) Q = Q (oI 0) (jm J) := by
  rw [sg_201_0, sp_194b h h9]
  simp only [zk_l, zk_r, Option.toList_some, Option.toList_none, List.cons_append, List.nil_append, zrokB, zrokB0, zrokB1, zrokJ0, zrokJ1, and_true, true_and, and_self, if_true, if_false, b2_0, b2_1, b2_not, ite_self]
  rw [sg_201_4, if_pos (by decide), sg_201_18, if_neg (by decide), sp_186b h h9]
  simp only [zk_l, zk_r, Option.toList_some, Option.toList_none, List.cons_append, List.nil_append, zrokB, zrokB0, zrokB1, zrokJ0, zrokJ1, and_true, true_and, and_self, if_true, if_false, b2_0, b2_1, b2_not, ite_self]
  rw [sg_201_27]
/-- takeGoods -/
theorem sp_202g (ht : txt (J 354) f n) (hp : PR f n J e) (e0 : 0 ≤ e) (e1 : e ≤ n) (hs : J 356 = s) (hK : okK s) :
    ∃ o J', (∀ Q : zO → zI → Prop, wz W 202 0 [.ref 353, .float 0, .float 0] [] (jm J) Q = Q o (jm J')) ∧ frT J J' ∧ rRs f n J' o (pGn f n s e) := by
  have hp' := hp
  obtain ⟨p2, p3, p4, p5, p6, p7⟩ := hp'
  obtain ⟨x1, x2, x3, x4, x5, x6, x7, x8, x9, x10, x11, x12⟩ := hK.1
  have hN := tqN_b (f := f) e1
  have hS := tqS_b (f := f) e1
  have hE := tqE_b (f := f) e1
  have bC : -1 ≤ fndG s (tqN f n e) ∧ fndG s (tqN f n e) < 100 := fnd_b2 (fun i : Nat => s (36 + 6 * (i : Int))) (c := s 5) (nm := tqN f n e) (by omega)
  let kk : Int := if tqN f n e = 0 then -1 else fndG s (tqN f n e)
  have bk : -1 ≤ kk ∧ kk < 100 := by
    show -1 ≤ (if tqN f n e = 0 then -1 else fndG s (tqN f n e)) ∧ (if tqN f n e = 0 then -1 else fndG s (tqN f n e)) < 100
    split <;> omega
  have R1 : ∀ Q : zO → zI → Prop, wz W 202 0 [.ref 353, .float 0, .float 0] [] (jm J) Q = wz W 202 18 [.ref 353, .int (jI (tqN f n e)), .float 0] [.int (jI kk)] (jm J) Q := by
    intro Q
    rw [sg_202_0, sp_194g ht hp e0 e1]
    simp only [zk_l, zk_r, Option.toList_some, Option.toList_none, List.cons_append, List.nil_append, zrokB, zrokB0, zrokB1, zrokJ0, zrokJ1, and_true, true_and, and_self, if_true, if_false, b2_0, b2_1, b2_not, ite_self]
    rw [sg_202_4, ifE0 (by omega) (by omega)]
    show _ = wz W 202 18 _ [.int (jI (if tqN f n e = 0 then -1 else fndG s (tqN f n e)))] _ _
    by_cases c : tqN f n e = 0
    · rw [if_pos c, if_pos c]
    · rw [if_neg c, if_neg c, sp_199r hs hK (by omega) (by omega)]
      simp only [zk_l, zk_r, Option.toList_some, Option.toList_none, List.cons_append, List.nil_append, zrokB, zrokB0, zrokB1, zrokJ0, zrokJ1, and_true, true_and, and_self, if_true, if_false, b2_0, b2_1, b2_not, ite_self]
  by_cases c : tqN f n e ≠ 0 ∧ fndG s (tqN f n e) ≠ -1
  · have ek : kk = fndG s (tqN f n e) := if_neg c.1
    obtain ⟨J2, r2, pr2, fr2⟩ := sp_185 (W := W) (J := J) (f := f) (n := n) (e := tqE f n e) ht p2 p3 p7 (by omega) (by omega)
    have hpn : pGn f n s e = .inr (fndG s (tqN f n e), tqE f n e) := if_pos c
    refine ⟨oI (fndG s (tqN f n e)), J2, fun Q => ?_, fr2, ?_⟩
    · rw [R1, sg_202_18, ek, if_pos (by rw [jI_0le (by omega) (by omega)]; omega), r2]
      simp only [zk_l, zk_r, Option.toList_some, Option.toList_none, List.cons_append, List.nil_append, zrokB, zrokB0, zrokB1, zrokJ0, zrokJ1, and_true, true_and, and_self, if_true, if_false, b2_0, b2_1, b2_not, ite_self]
      rw [sg_202_33]
    · rw [hpn]
      exact ⟨rfl, pr2⟩
  · have ek : kk = -1 := by
      show (if tqN f n e = 0 then -1 else fndG s (tqN f n e)) = -1
      by_cases h1 : tqN f n e = 0
      · rw [if_pos h1]
      · rw [if_neg h1]
        exact Classical.byContradiction (fun h2 => c ⟨h1, h2⟩)
    have hpn : pGn f n s e = .inl (tqS f n e) := if_neg c
    refine ⟨oI 0, jrow J 353 (sset (J 353) 7 (tqS f n e)), fun Q => ?_, frT_row (fun i hi => sset_ne (by omega)), ?_⟩
    · rw [R1, sg_202_18, ek, if_neg (by decide), sp_186g hp]
      simp only [zk_l, zk_r, Option.toList_some, Option.toList_none, List.cons_append, List.nil_append, zrokB, zrokB0, zrokB1, zrokJ0, zrokJ1, and_true, true_and, and_self, if_true, if_false, b2_0, b2_1, b2_not, ite_self]
      rw [sg_202_27]
    · rw [hpn]
      exact ⟨rfl, by rw [jrow_same, sset_eq rfl]⟩
theorem sp_202b (h : 0 ≤ J 353 7) (h9 : J 353 7 ≤ 900) : wz W 202 0 [.ref 353, .float 0, .float 0] [] (jm J) Q = Q (oI 0) (jm J) := by
  rw [sg_202_0, sp_194b h h9]
  simp only [zk_l, zk_r, Option.toList_some, Option.toList_none, List.cons_append, List.nil_append, zrokB, zrokB0, zrokB1, zrokJ0, zrokJ1, and_true, true_and, and_self, if_true, if_false, b2_0, b2_1, b2_not, ite_self]
  rw [sg_202_4, if_pos (by decide), sg_202_18, if_neg (by decide), sp_186b h h9]
  simp only [zk_l, zk_r, Option.toList_some, Option.toList_none, List.cons_append, List.nil_append, zrokB, zrokB0, zrokB1, zrokJ0, zrokJ1, and_true, true_and, and_self, if_true, if_false, b2_0, b2_1, b2_not, ite_self]
  rw [sg_202_27]
/-- begins -/
theorem sp_203t (ht : txt (J 354) f n) (hp : PR f n J e) (e0 : 0 ≤ e) (e1 : e ≤ n) : ∃ J', (∀ Q : zO → zI → Prop, wz W 203 0 [.ref 353, .int (jI 0)] [] (jm J) Q = Q (oI 1) (jm J')) ∧ frT J J' ∧ PR f n J' (tqE f n e) := by
  obtain ⟨p2, p3, p4, p5, p6, p7⟩ := hp
  have hS := tqS_b (f := f) e1
  have hE := tqE_b (f := f) e1
  obtain ⟨J2, r2, pr2, fr2⟩ := sp_185 (W := W) (J := J) (f := f) (n := n) (e := tqE f n e) ht p2 p3 p7 (by omega) (by omega)
  refine ⟨J2, fun Q => ?_, fr2, pr2⟩
  rw [sg_203_0, if_pos (by decide), r2]
  simp only [zk_l, zk_r, Option.toList_some, Option.toList_none, List.cons_append, List.nil_append, zrokB, zrokB0, zrokB1, zrokJ0, zrokJ1, and_true, true_and, and_self, if_true, if_false, b2_0, b2_1, b2_not, ite_self]
  rw [sg_203_14]
theorem sp_203f (hp : PR f n J e) : wz W 203 0 [.ref 353, .int (jI 1)] [] (jm J) Q = Q (oI 0) (jm (jrow J 353 (sset (J 353) 7 (tqS f n e)))) := by
  rw [sg_203_0, if_neg (by decide), sp_186g hp]
  simp only [zk_l, zk_r, Option.toList_some, Option.toList_none, List.cons_append, List.nil_append, zrokB, zrokB0, zrokB1, zrokJ0, zrokJ1, and_true, true_and, and_self, if_true, if_false, b2_0, b2_1, b2_not, ite_self]
  rw [sg_203_8]
theorem fT_7 {v : Int} : fT J (jrow J 353 (sset (J 353) 7 v)) := fT_f (frT_row (fun i hi => sset_ne (by omega)))
theorem row7 {v : Int} : (jrow J 353 (sset (J 353) 7 v)) 353 7 = v := by rw [jrow_same, sset_eq rfl]
theorem bt204_92 {x v i : Int} (h : 0 ≤ J 353 7) (h9 : J 353 7 ≤ 900) (i0 : 0 ≤ i) (i1 : i < 472) : ∃ g, ∀ Q : zO → zI → Prop, wz W 204 92 [.ref 353, .int (jI x)] [.int (jI v), .int (jI i), .ref 356] (jm J) Q = Q oV (jm (jrow J 356 g)) := by
  let J1 : zJ := jrow J 356 (sset (J 356) i v)
  have q7 : J1 353 7 = J 353 7 := by
    show jrow J 356 _ 353 7 = _
    rw [jrow_ne (by decide)]
  refine ⟨sset (sset (J 356) i v) 4 (sset (J 356) i v 4 + 0), fun Q => ?_⟩
  rw [sg_204_92 (hqt0 := h_356)]
  simp (disch := first | assumption | omega) only [zk_l, zk_r, Option.toList_some, Option.toList_none, List.cons_append, List.nil_append, zrokB, zrokB0, zrokB1, zrokJ0, zrokJ1, and_true, true_and, and_self, if_true, if_false, b2_0, b2_1, b2_not, ite_self, Int.add_zero, jI_nat, jI_add, jI_sub, jI_mul, jI_neg, jI_lt, jI_le, jI_eq, jI_lt0, jI_0lt, jI_le0, jI_0le, jI_eq0, jI_in, jI_dv, i_mod, jI_cl, jm_n, jz_n, i_lit, i_c0, i_c1, Int.toNat_of_nonneg, Int.toNat_natCast, jrow_same, jrow_ne, jrow_jrow, sset_eq, sset_ne]
  refine (sp_187b (J := J1) (by omega) (by omega)).trans ?_
  simp only [zk_l, zk_r, Option.toList_some, Option.toList_none, List.cons_append, List.nil_append, zrokB, zrokB0, zrokB1, zrokJ0, zrokJ1, and_true, true_and, and_self, if_true, if_false, b2_0, b2_1, b2_not, ite_self]
  rw [sg_204_104 (hqt0 := h_356), if_pos (by decide), sg_204_112 (hqt0 := h_356)]
  show (zvin (jI 4) 472 = true ∧ Q oV (zset (jm J1) 356 (jI 4).toNatClampNeg (jI (sset (J 356) i v 4) + jI 0))) = _
  rw [jI_in (by decide) (by decide) (by decide), jI_add, jI_cl (by decide) (by decide)]
  simp (disch := first | assumption | omega) only [jz_n, i_lit, true_and]
  show Q oV (jm (jrow J1 356 (sset (J1 356) 4 _))) = _
  have e1 : J1 356 = sset (J 356) i v := jrow_same
  have e2 : ∀ g, jrow J1 356 g = jrow J 356 g := fun g => jrow_jrow
  rw [e1, e2, Int.add_zero]
theorem bt204_76 {x v i : Int} (h : 0 ≤ J 353 7) (h9 : J 353 7 ≤ 900) (i0 : 0 ≤ i) (i1 : i < 472) (x0 : 0 ≤ x) (x1 : x < 460) : ∃ g, ∀ Q : zO → zI → Prop, wz W 204 76 [.ref 353, .int (jI x)] [.int (jI v), .int (jI i), .ref 356] (jm J) Q = Q oV (jm (jrow J 356 g)) := by
  let J1 : zJ := jrow J 356 (sset (J 356) i v)
  have q7 : J1 353 7 = J 353 7 := by
    show jrow J 356 _ 353 7 = _
    rw [jrow_ne (by decide)]
  obtain ⟨g, hg⟩ := bt204_92 (W := W) (J := J1) (x := x) (v := 0) (i := x + 3) (by omega) (by omega) (by omega) (by omega)
  refine ⟨g, fun Q => ?_⟩
  rw [sg_204_76 (hqt0 := h_356)]
  simp (disch := first | assumption | omega) only [zk_l, zk_r, Option.toList_some, Option.toList_none, List.cons_append, List.nil_append, zrokB, zrokB0, zrokB1, zrokJ0, zrokJ1, and_true, true_and, and_self, if_true, if_false, b2_0, b2_1, b2_not, ite_self, Int.add_zero, jI_nat, jI_add, jI_sub, jI_mul, jI_neg, jI_lt, jI_le, jI_eq, jI_lt0, jI_0lt, jI_le0, jI_0le, jI_eq0, jI_in, jI_dv, i_mod, jI_cl, jm_n, jz_n, i_lit, i_c0, i_c1, Int.toNat_of_nonneg, Int.toNat_natCast, jrow_same, jrow_ne, jrow_jrow, sset_eq, sset_ne]
  refine (sp_192b (J := J1) (by omega) (by omega)).trans ?_
  simp only [zk_l, zk_r, Option.toList_some, Option.toList_none, List.cons_append, List.nil_append, zrokB, zrokB0, zrokB1, zrokJ0, zrokJ1, and_true, true_and, and_self, if_true, if_false, b2_0, b2_1, b2_not, ite_self]
  refine (hg Q).trans ?_
  have e2 : ∀ g, jrow J1 356 g = jrow J 356 g := fun g => jrow_jrow
  rw [e2]
theorem bt204_62 {x v i : Int} (h : 0 ≤ J 353 7) (h9 : J 353 7 ≤ 900) (i0 : 0 ≤ i) (i1 : i < 472) (x0 : 0 ≤ x) (x1 : x < 460) : ∃ g, ∀ Q : zO → zI → Prop, wz W 204 62 [.ref 353, .int (jI x)] [.int (jI v), .int (jI i), .ref 356] (jm J) Q = Q oV (jm (jrow J 356 g)) := by
  let J1 : zJ := jrow J 356 (sset (J 356) i v)
  have q7 : J1 353 7 = J 353 7 := by
    show jrow J 356 _ 353 7 = _
    rw [jrow_ne (by decide)]
  obtain ⟨g, hg⟩ := bt204_76 (W := W) (J := J1) (x := x) (v := 0) (i := x + 2) (by omega) (by omega) (by omega) (by omega) x0 x1
  refine ⟨g, fun Q => ?_⟩
  rw [sg_204_62 (hqt0 := h_356)]
  simp (disch := first | assumption | omega) only [zk_l, zk_r, Option.toList_some, Option.toList_none, List.cons_append, List.nil_append, zrokB, zrokB0, zrokB1, zrokJ0, zrokJ1, and_true, true_and, and_self, if_true, if_false, b2_0, b2_1, b2_not, ite_self, Int.add_zero, jI_nat, jI_add, jI_sub, jI_mul, jI_neg, jI_lt, jI_le, jI_eq, jI_lt0, jI_0lt, jI_le0, jI_0le, jI_eq0, jI_in, jI_dv, i_mod, jI_cl, jm_n, jz_n, i_lit, i_c0, i_c1, Int.toNat_of_nonneg, Int.toNat_natCast, jrow_same, jrow_ne, jrow_jrow, sset_eq, sset_ne]
  refine (sp_191b (J := J1) (by omega) (by omega)).trans ?_
  simp only [zk_l, zk_r, Option.toList_some, Option.toList_none, List.cons_append, List.nil_append, zrokB, zrokB0, zrokB1, zrokJ0, zrokJ1, and_true, true_and, and_self, if_true, if_false, b2_0, b2_1, b2_not, ite_self]
  refine (hg Q).trans ?_
  have e2 : ∀ g, jrow J1 356 g = jrow J 356 g := fun g => jrow_jrow
  rw [e2]
theorem bt204_47 {x v i : Int} (h : 0 ≤ J 353 7) (h9 : J 353 7 ≤ 900) (i0 : 0 ≤ i) (i1 : i < 472) (x0 : 0 ≤ x) (x1 : x < 460) : ∃ g, ∀ Q : zO → zI → Prop, wz W 204 47 [.ref 353, .int (jI x)] [.int (jI v), .int (jI i), .ref 356] (jm J) Q = Q oV (jm (jrow J 356 g)) := by
  let J1 : zJ := jrow J 356 (sset (J 356) i v)
  have q7 : J1 353 7 = J 353 7 := by
    show jrow J 356 _ 353 7 = _
    rw [jrow_ne (by decide)]
  obtain ⟨g, hg⟩ := bt204_62 (W := W) (J := J1) (x := x) (v := 0) (i := x + 1) (by omega) (by omega) (by omega) (by omega) x0 x1
  refine ⟨g, fun Q => ?_⟩
  rw [sg_204_47 (hqt0 := h_356)]
  simp (disch := first | assumption | omega) only [zk_l, zk_r, Option.toList_some, Option.toList_none, List.cons_append, List.nil_append, zrokB, zrokB0, zrokB1, zrokJ0, zrokJ1, and_true, true_and, and_self, if_true, if_false, b2_0, b2_1, b2_not, ite_self, Int.add_zero, jI_nat, jI_add, jI_sub, jI_mul, jI_neg, jI_lt, jI_le, jI_eq, jI_lt0, jI_0lt, jI_le0, jI_0le, jI_eq0, jI_in, jI_dv, i_mod, jI_cl, jm_n, jz_n, i_lit, i_c0, i_c1, Int.toNat_of_nonneg, Int.toNat_natCast, jrow_same, jrow_ne, jrow_jrow, sset_eq, sset_ne]
  refine (sp_191b (J := J1) (by omega) (by omega)).trans ?_
  simp only [zk_l, zk_r, Option.toList_some, Option.toList_none, List.cons_append, List.nil_append, zrokB, zrokB0, zrokB1, zrokJ0, zrokJ1, and_true, true_and, and_self, if_true, if_false, b2_0, b2_1, b2_not, ite_self]
  refine (hg Q).trans ?_
  have e2 : ∀ g, jrow J1 356 g = jrow J 356 g := fun g => jrow_jrow
  rw [e2]
theorem bt206_131 {x v i : Int} (h : 0 ≤ J 353 7) (h9 : J 353 7 ≤ 900) (i0 : 0 ≤ i) (i1 : i < 472) : ∃ g, ∀ Q : zO → zI → Prop, wz W 206 131 [.ref 353, .int (jI x)] [.int (jI v), .int (jI i), .ref 356] (jm J) Q = Q oV (jm (jrow J 356 g)) := by
  let J1 : zJ := jrow J 356 (sset (J 356) i v)
  have q7 : J1 353 7 = J 353 7 := by
    show jrow J 356 _ 353 7 = _
    rw [jrow_ne (by decide)]
  refine ⟨sset (sset (J 356) i v) 5 (sset (J 356) i v 5 + 0), fun Q => ?_⟩
  rw [sg_206_131 (hqt0 := h_356)]
  simp (disch := first | assumption | omega) only [zk_l, zk_r, Option.toList_some, Option.toList_none, List.cons_append, List.nil_append, zrokB, zrokB0, zrokB1, zrokJ0, zrokJ1, and_true, true_and, and_self, if_true, if_false, b2_0, b2_1, b2_not, ite_self, Int.add_zero, jI_nat, jI_add, jI_sub, jI_mul, jI_neg, jI_lt, jI_le, jI_eq, jI_lt0, jI_0lt, jI_le0, jI_0le, jI_eq0, jI_in, jI_dv, i_mod, jI_cl, jm_n, jz_n, i_lit, i_c0, i_c1, Int.toNat_of_nonneg, Int.toNat_natCast, jrow_same, jrow_ne, jrow_jrow, sset_eq, sset_ne]
  refine (sp_187b (J := J1) (by omega) (by omega)).trans ?_
  simp only [zk_l, zk_r, Option.toList_some, Option.toList_none, List.cons_append, List.nil_append, zrokB, zrokB0, zrokB1, zrokJ0, zrokJ1, and_true, true_and, and_self, if_true, if_false, b2_0, b2_1, b2_not, ite_self]
  rw [sg_206_143 (hqt0 := h_356), if_pos (by decide), sg_206_151 (hqt0 := h_356)]
  show (zvin (jI 5) 472 = true ∧ Q oV (zset (jm J1) 356 (jI 5).toNatClampNeg (jI (sset (J 356) i v 5) + jI 0))) = _
  rw [jI_in (by decide) (by decide) (by decide), jI_add, jI_cl (by decide) (by decide)]
  simp (disch := first | assumption | omega) only [jz_n, i_lit, true_and]
  show Q oV (jm (jrow J1 356 (sset (J1 356) 5 _))) = _
  have e1 : J1 356 = sset (J 356) i v := jrow_same
  have e2 : ∀ g, jrow J1 356 g = jrow J 356 g := fun g => jrow_jrow
  rw [e1, e2, Int.add_zero]
theorem bt206_116 {x v i : Int} (h : 0 ≤ J 353 7) (h9 : J 353 7 ≤ 900) (i0 : 0 ≤ i) (i1 : i < 472) (x0 : 0 ≤ x) (x1 : x < 460) : ∃ g, ∀ Q : zO → zI → Prop, wz W 206 116 [.ref 353, .int (jI x)] [.int (jI v), .int (jI i), .ref 356] (jm J) Q = Q oV (jm (jrow J 356 g)) := by
  let J1 : zJ := jrow J 356 (sset (J 356) i v)
  have q7 : J1 353 7 = J 353 7 := by
    show jrow J 356 _ 353 7 = _
    rw [jrow_ne (by decide)]
  obtain ⟨g, hg⟩ := bt206_131 (W := W) (J := J1) (x := x) (v := 0) (i := x + 5) (by omega) (by omega) (by omega) (by omega)
  refine ⟨g, fun Q => ?_⟩
  rw [sg_206_116 (hqt0 := h_356)]
  simp (disch := first | assumption | omega) only [zk_l, zk_r, Option.toList_some, Option.toList_none, List.cons_append, List.nil_append, zrokB, zrokB0, zrokB1, zrokJ0, zrokJ1, and_true, true_and, and_self, if_true, if_false, b2_0, b2_1, b2_not, ite_self, Int.add_zero, jI_nat, jI_add, jI_sub, jI_mul, jI_neg, jI_lt, jI_le, jI_eq, jI_lt0, jI_0lt, jI_le0, jI_0le, jI_eq0, jI_in, jI_dv, i_mod, jI_cl, jm_n, jz_n, i_lit, i_c0, i_c1, Int.toNat_of_nonneg, Int.toNat_natCast, jrow_same, jrow_ne, jrow_jrow, sset_eq, sset_ne]
  refine (sp_191b (J := J1) (by omega) (by omega)).trans ?_
  simp only [zk_l, zk_r, Option.toList_some, Option.toList_none, List.cons_append, List.nil_append, zrokB, zrokB0, zrokB1, zrokJ0, zrokJ1, and_true, true_and, and_self, if_true, if_false, b2_0, b2_1, b2_not, ite_self]
  refine (hg Q).trans ?_
  have e2 : ∀ g, jrow J1 356 g = jrow J 356 g := fun g => jrow_jrow
  rw [e2]
theorem bt206_101 {x v i : Int} (h : 0 ≤ J 353 7) (h9 : J 353 7 ≤ 900) (i0 : 0 ≤ i) (i1 : i < 472) (x0 : 0 ≤ x) (x1 : x < 460) : ∃ g, ∀ Q : zO → zI → Prop, wz W 206 101 [.ref 353, .int (jI x)] [.int (jI v), .int (jI i), .ref 356] (jm J) Q = Q oV (jm (jrow J 356 g)) := by
  let J1 : zJ := jrow J 356 (sset (J 356) i v)
  have q7 : J1 353 7 = J 353 7 := by
    show jrow J 356 _ 353 7 = _
    rw [jrow_ne (by decide)]
  obtain ⟨g, hg⟩ := bt206_116 (W := W) (J := J1) (x := x) (v := 0) (i := x + 4) (by omega) (by omega) (by omega) (by omega) x0 x1
  refine ⟨g, fun Q => ?_⟩
  rw [sg_206_101 (hqt0 := h_356)]
  simp (disch := first | assumption | omega) only [zk_l, zk_r, Option.toList_some, Option.toList_none, List.cons_append, List.nil_append, zrokB, zrokB0, zrokB1, zrokJ0, zrokJ1, and_true, true_and, and_self, if_true, if_false, b2_0, b2_1, b2_not, ite_self, Int.add_zero, jI_nat, jI_add, jI_sub, jI_mul, jI_neg, jI_lt, jI_le, jI_eq, jI_lt0, jI_0lt, jI_le0, jI_0le, jI_eq0, jI_in, jI_dv, i_mod, jI_cl, jm_n, jz_n, i_lit, i_c0, i_c1, Int.toNat_of_nonneg, Int.toNat_natCast, jrow_same, jrow_ne, jrow_jrow, sset_eq, sset_ne]
  refine (sp_191b (J := J1) (by omega) (by omega)).trans ?_
  simp only [zk_l, zk_r, Option.toList_some, Option.toList_none, List.cons_append, List.nil_append, zrokB, zrokB0, zrokB1, zrokJ0, zrokJ1, and_true, true_and, and_self, if_true, if_false, b2_0, b2_1, b2_not, ite_self]
  refine (hg Q).trans ?_
  have e2 : ∀ g, jrow J1 356 g = jrow J 356 g := fun g => jrow_jrow
  rw [e2]
theorem bt206_86 {x v i : Int} (h : 0 ≤ J 353 7) (h9 : J 353 7 ≤ 900) (i0 : 0 ≤ i) (i1 : i < 472) (x0 : 0 ≤ x) (x1 : x < 460) : ∃ g, ∀ Q : zO → zI → Prop, wz W 206 86 [.ref 353, .int (jI x)] [.int (jI v), .int (jI i), .ref 356] (jm J) Q = Q oV (jm (jrow J 356 g)) := by
  let J1 : zJ := jrow J 356 (sset (J 356) i v)
  have q7 : J1 353 7 = J 353 7 := by
    show jrow J 356 _ 353 7 = _
    rw [jrow_ne (by decide)]
  obtain ⟨g, hg⟩ := bt206_101 (W := W) (J := J1) (x := x) (v := 0) (i := x + 3) (by omega) (by omega) (by omega) (by omega) x0 x1
  refine ⟨g, fun Q => ?_⟩
  rw [sg_206_86 (hqt0 := h_356)]
  simp (disch := first | assumption | omega) only [zk_l, zk_r, Option.toList_some, Option.toList_none, List.cons_append, List.nil_append, zrokB, zrokB0, zrokB1, zrokJ0, zrokJ1, and_true, true_and, and_self, if_true, if_false, b2_0, b2_1, b2_not, ite_self, Int.add_zero, jI_nat, jI_add, jI_sub, jI_mul, jI_neg, jI_lt, jI_le, jI_eq, jI_lt0, jI_0lt, jI_le0, jI_0le, jI_eq0, jI_in, jI_dv, i_mod, jI_cl, jm_n, jz_n, i_lit, i_c0, i_c1, Int.toNat_of_nonneg, Int.toNat_natCast, jrow_same, jrow_ne, jrow_jrow, sset_eq, sset_ne]
  refine (sp_191b (J := J1) (by omega) (by omega)).trans ?_
  simp only [zk_l, zk_r, Option.toList_some, Option.toList_none, List.cons_append, List.nil_append, zrokB, zrokB0, zrokB1, zrokJ0, zrokJ1, and_true, true_and, and_self, if_true, if_false, b2_0, b2_1, b2_not, ite_self]
  refine (hg Q).trans ?_
  have e2 : ∀ g, jrow J1 356 g = jrow J 356 g := fun g => jrow_jrow
  rw [e2]
theorem bt206_64 {x v i : Int} (h : 0 ≤ J 353 7) (h9 : J 353 7 ≤ 900) (i0 : 0 ≤ i) (i1 : i < 472) (x0 : 0 ≤ x) (x1 : x < 460) : ∃ g, ∀ Q : zO → zI → Prop, wz W 206 64 [.ref 353, .int (jI x)] [.int (jI v), .int (jI i), .ref 356] (jm J) Q = Q oV (jm (jrow J 356 g)) := by
  let J1 : zJ := jrow J 356 (sset (J 356) i v)
  have q7 : J1 353 7 = J 353 7 := by
    show jrow J 356 _ 353 7 = _
    rw [jrow_ne (by decide)]
  obtain ⟨g, hg⟩ := bt206_86 (W := W) (J := J1) (x := x) (v := 0) (i := x + 2) (by omega) (by omega) (by omega) (by omega) x0 x1
  refine ⟨g, fun Q => ?_⟩
  rw [sg_206_64 (hqt0 := h_356)]
  simp (disch := first | assumption | omega) only [zk_l, zk_r, Option.toList_some, Option.toList_none, List.cons_append, List.nil_append, zrokB, zrokB0, zrokB1, zrokJ0, zrokJ1, and_true, true_and, and_self, if_true, if_false, b2_0, b2_1, b2_not, ite_self, Int.add_zero, jI_nat, jI_add, jI_sub, jI_mul, jI_neg, jI_lt, jI_le, jI_eq, jI_lt0, jI_0lt, jI_le0, jI_0le, jI_eq0, jI_in, jI_dv, i_mod, jI_cl, jm_n, jz_n, i_lit, i_c0, i_c1, Int.toNat_of_nonneg, Int.toNat_natCast, jrow_same, jrow_ne, jrow_jrow, sset_eq, sset_ne]
  refine (sp_192b (J := J1) (by omega) (by omega)).trans ?_
  simp only [zk_l, zk_r, Option.toList_some, Option.toList_none, List.cons_append, List.nil_append, zrokB, zrokB0, zrokB1, zrokJ0, zrokJ1, and_true, true_and, and_self, if_true, if_false, b2_0, b2_1, b2_not, ite_self]
  refine (hg Q).trans ?_
  have e2 : ∀ g, jrow J1 356 g = jrow J 356 g := fun g => jrow_jrow
  rw [e2]
theorem bt206_48 {x v i : Int} (h : 0 ≤ J 353 7) (h9 : J 353 7 ≤ 900) (i0 : 0 ≤ i) (i1 : i < 472) (x0 : 0 ≤ x) (x1 : x < 460) : ∃ g, ∀ Q : zO → zI → Prop, wz W 206 48 [.ref 353, .int (jI x)] [.int (jI v), .int (jI i), .ref 356] (jm J) Q = Q oV (jm (jrow J 356 g)) := by
  let J1 : zJ := jrow J 356 (sset (J 356) i v)
  have q7 : J1 353 7 = J 353 7 := by
    show jrow J 356 _ 353 7 = _
    rw [jrow_ne (by decide)]
  obtain ⟨g, hg⟩ := bt206_64 (W := W) (J := J1) (x := x) (v := 0) (i := x + 1) (by omega) (by omega) (by omega) (by omega) x0 x1
  refine ⟨g, fun Q => ?_⟩
  rw [sg_206_48 (hqt0 := h_356)]
  simp (disch := first | assumption | omega) only [zk_l, zk_r, Option.toList_some, Option.toList_none, List.cons_append, List.nil_append, zrokB, zrokB0, zrokB1, zrokJ0, zrokJ1, and_true, true_and, and_self, if_true, if_false, b2_0, b2_1, b2_not, ite_self, Int.add_zero, jI_nat, jI_add, jI_sub, jI_mul, jI_neg, jI_lt, jI_le, jI_eq, jI_lt0, jI_0lt, jI_le0, jI_0le, jI_eq0, jI_in, jI_dv, i_mod, jI_cl, jm_n, jz_n, i_lit, i_c0, i_c1, Int.toNat_of_nonneg, Int.toNat_natCast, jrow_same, jrow_ne, jrow_jrow, sset_eq, sset_ne]
  refine (sp_192b (J := J1) (by omega) (by omega)).trans ?_
  simp only [zk_l, zk_r, Option.toList_some, Option.toList_none, List.cons_append, List.nil_append, zrokB, zrokB0, zrokB1, zrokJ0, zrokJ1, and_true, true_and, and_self, if_true, if_false, b2_0, b2_1, b2_not, ite_self]
  refine (hg Q).trans ?_
  have e2 : ∀ g, jrow J1 356 g = jrow J 356 g := fun g => jrow_jrow
  rw [e2]
theorem bt208_79 {x v i : Int} (h : 0 ≤ J 353 7) (h9 : J 353 7 ≤ 900) (i0 : 0 ≤ i) (i1 : i < 472) : ∃ g, ∀ Q : zO → zI → Prop, wz W 208 79 [.ref 353, .int (jI x)] [.int (jI v), .int (jI i), .ref 356] (jm J) Q = Q oV (jm (jrow J 356 g)) := by
  let J1 : zJ := jrow J 356 (sset (J 356) i v)
  have q7 : J1 353 7 = J 353 7 := by
    show jrow J 356 _ 353 7 = _
    rw [jrow_ne (by decide)]
  refine ⟨sset (sset (J 356) i v) 7 (sset (J 356) i v 7 + 0), fun Q => ?_⟩
  rw [sg_208_79 (hqt0 := h_356)]
  simp (disch := first | assumption | omega) only [zk_l, zk_r, Option.toList_some, Option.toList_none, List.cons_append, List.nil_append, zrokB, zrokB0, zrokB1, zrokJ0, zrokJ1, and_true, true_and, and_self, if_true, if_false, b2_0, b2_1, b2_not, ite_self, Int.add_zero, jI_nat, jI_add, jI_sub, jI_mul, jI_neg, jI_lt, jI_le, jI_eq, jI_lt0, jI_0lt, jI_le0, jI_0le, jI_eq0, jI_in, jI_dv, i_mod, jI_cl, jm_n, jz_n, i_lit, i_c0, i_c1, Int.toNat_of_nonneg, Int.toNat_natCast, jrow_same, jrow_ne, jrow_jrow, sset_eq, sset_ne]
  refine (sp_187b (J := J1) (by omega) (by omega)).trans ?_
  simp only [zk_l, zk_r, Option.toList_some, Option.toList_none, List.cons_append, List.nil_append, zrokB, zrokB0, zrokB1, zrokJ0, zrokJ1, and_true, true_and, and_self, if_true, if_false, b2_0, b2_1, b2_not, ite_self]
  rw [sg_208_92 (hqt0 := h_356), if_pos (by decide), sg_208_100 (hqt0 := h_356)]
  show (zvin (jI 7) 472 = true ∧ Q oV (zset (jm J1) 356 (jI 7).toNatClampNeg (jI (sset (J 356) i v 7) + jI 0))) = _
  rw [jI_in (by decide) (by decide) (by decide), jI_add, jI_cl (by decide) (by decide)]
  simp (disch := first | assumption | omega) only [jz_n, i_lit, true_and]
  show Q oV (jm (jrow J1 356 (sset (J1 356) 7 _))) = _
  have e1 : J1 356 = sset (J 356) i v := jrow_same
  have e2 : ∀ g, jrow J1 356 g = jrow J 356 g := fun g => jrow_jrow
  rw [e1, e2, Int.add_zero]
theorem bt208_63 {x v i : Int} (h : 0 ≤ J 353 7) (h9 : J 353 7 ≤ 900) (i0 : 0 ≤ i) (i1 : i < 472) (x0 : 0 ≤ x) (x1 : x < 460) : ∃ g, ∀ Q : zO → zI → Prop, wz W 208 63 [.ref 353, .int (jI x)] [.int (jI v), .int (jI i), .ref 356] (jm J) Q = Q oV (jm (jrow J 356 g)) := by
  let J1 : zJ := jrow J 356 (sset (J 356) i v)
  have q7 : J1 353 7 = J 353 7 := by
    show jrow J 356 _ 353 7 = _
    rw [jrow_ne (by decide)]
  obtain ⟨g, hg⟩ := bt208_79 (W := W) (J := J1) (x := x) (v := 0) (i := x + 2) (by omega) (by omega) (by omega) (by omega)
  refine ⟨g, fun Q => ?_⟩
  rw [sg_208_63 (hqt0 := h_356)]
  simp (disch := first | assumption | omega) only [zk_l, zk_r, Option.toList_some, Option.toList_none, List.cons_append, List.nil_append, zrokB, zrokB0, zrokB1, zrokJ0, zrokJ1, and_true, true_and, and_self, if_true, if_false, b2_0, b2_1, b2_not, ite_self, Int.add_zero, jI_nat, jI_add, jI_sub, jI_mul, jI_neg, jI_lt, jI_le, jI_eq, jI_lt0, jI_0lt, jI_le0, jI_0le, jI_eq0, jI_in, jI_dv, i_mod, jI_cl, jm_n, jz_n, i_lit, i_c0, i_c1, Int.toNat_of_nonneg, Int.toNat_natCast, jrow_same, jrow_ne, jrow_jrow, sset_eq, sset_ne]
  refine (sp_191b (J := J1) (by omega) (by omega)).trans ?_
  simp only [zk_l, zk_r, Option.toList_some, Option.toList_none, List.cons_append, List.nil_append, zrokB, zrokB0, zrokB1, zrokJ0, zrokJ1, and_true, true_and, and_self, if_true, if_false, b2_0, b2_1, b2_not, ite_self]
  refine (hg Q).trans ?_
  have e2 : ∀ g, jrow J1 356 g = jrow J 356 g := fun g => jrow_jrow
  rw [e2]
theorem bt208_48 {x v i : Int} (h : 0 ≤ J 353 7) (h9 : J 353 7 ≤ 900) (i0 : 0 ≤ i) (i1 : i < 472) (x0 : 0 ≤ x) (x1 : x < 460) : ∃ g, ∀ Q : zO → zI → Prop, wz W 208 48 [.ref 353, .int (jI x)] [.int (jI v), .int (jI i), .ref 356] (jm J) Q = Q oV (jm (jrow J 356 g)) := by
  let J1 : zJ := jrow J 356 (sset (J 356) i v)
  have q7 : J1 353 7 = J 353 7 := by
    show jrow J 356 _ 353 7 = _
    rw [jrow_ne (by decide)]
  obtain ⟨g, hg⟩ := bt208_63 (W := W) (J := J1) (x := x) (v := 0) (i := x + 1) (by omega) (by omega) (by omega) (by omega) x0 x1
  refine ⟨g, fun Q => ?_⟩
  rw [sg_208_48 (hqt0 := h_356)]
  simp (disch := first | assumption | omega) only [zk_l, zk_r, Option.toList_some, Option.toList_none, List.cons_append, List.nil_append, zrokB, zrokB0, zrokB1, zrokJ0, zrokJ1, and_true, true_and, and_self, if_true, if_false, b2_0, b2_1, b2_not, ite_self, Int.add_zero, jI_nat, jI_add, jI_sub, jI_mul, jI_neg, jI_lt, jI_le, jI_eq, jI_lt0, jI_0lt, jI_le0, jI_0le, jI_eq0, jI_in, jI_dv, i_mod, jI_cl, jm_n, jz_n, i_lit, i_c0, i_c1, Int.toNat_of_nonneg, Int.toNat_natCast, jrow_same, jrow_ne, jrow_jrow, sset_eq, sset_ne]
  refine (sp_191b (J := J1) (by omega) (by omega)).trans ?_
  simp only [zk_l, zk_r, Option.toList_some, Option.toList_none, List.cons_append, List.nil_append, zrokB, zrokB0, zrokB1, zrokJ0, zrokJ1, and_true, true_and, and_self, if_true, if_false, b2_0, b2_1, b2_not, ite_self]
  refine (hg Q).trans ?_
  have e2 : ∀ g, jrow J1 356 g = jrow J 356 g := fun g => jrow_jrow
  rw [e2]
end
