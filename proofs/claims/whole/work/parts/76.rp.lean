/-! ===== the class: what statements lay ===== -/
def fcI (c : Int) : Nat → Int32
  | 0 => 0
  | k + 1 => fcI c k ||| (jI 1 <<< ((jI (k : Int) * jI c) &&& 31))
theorem fcI_mk : ∀ r, r < 7 → ∀ c, c < 5 → 0 < c → fcI (c : Nat) r = mk (r * c) (fun k => decide (k % ((c : Nat) : Int) = 0)) := by decide +kernel
theorem jI_ti (x : Int32) : x = jI x.toInt := (jI_of x).symm
section
variable {W : zW} {J : zJ} {Q : zO → zI → Prop} {f : Int → Int} {n e : Int} {u : Nat} {s : Int → Int} {hl hq : Int}
/-- define -/
theorem sp_1 {q : Nat} (hq : zChb q) {a b c d : Int} (b1 : 1 ≤ b) (b6 : b ≤ 6) (c1 : 1 ≤ c) (c4 : c ≤ 4) :
    ∃ J', (∀ Q : zO → zI → Prop, wz W 1 0 [.ref q, .int (jI a), .int (jI b), .int (jI c), .int (jI d), .float 0] [] (jm J) Q = Q oV (jm J')) ∧ (∀ r, r ≠ q → J' r = J r) ∧ J' q 0 = a ∧ J' q 1 = b ∧ J' q 2 = c ∧ J' q 3 = d ∧ J' q 4 = 0 ∧ jI (J' q 5) = mk (b * c).toNat (fun _ => true) ∧ jI (J' q 6) = mk (b * c).toNat (fun k => decide (k % c = 0)) := by
  have hbc : 0 ≤ b * c ∧ b * c ≤ 24 := by
    have m3 : b * c ≤ 6 * 4 := Int.mul_le_mul b6 c4 (by omega) (by omega)
    have m4 : 0 ≤ b * c := Int.mul_nonneg (by omega) (by omega)
    omega
  have hA : (jI 1 <<< ((jI b * jI c) &&& 31)) - jI 1 = mk (b * c).toNat (fun _ => true) := by
    rw [jI_mul, ← mk_all (n := (b * c).toNat) (by omega), Int.toNat_of_nonneg hbc.1]
  let R : Int → Int := sset (sset (sset (sset (sset (sset (sset (J q) 0 a) 1 b) 2 c) 3 d) 4 0) 5 (mk (b * c).toNat (fun _ => true)).toInt) 6 0
  have l0 : ∀ Q : zO → zI → Prop, wz W 1 0 [.ref q, .int (jI a), .int (jI b), .int (jI c), .int (jI d), .float 0] [] (jm J) Q = wz W 1 45 [.ref q, .int (jI a), .int (jI b), .int (jI c), .int (jI d), .int (jI 0)] [] (jm (jrow J q R)) Q := by
    intro Q
    rw [sg_1_0 (hc := hq), hA, jI_ti (mk (b * c).toNat (fun _ => true))]
    simp (disch := first | assumption | omega) only [jm_n, jz_n, i_lit, i_c0, i_c1, jrow_same, jrow_jrow]
    rfl
  have hR6 : sset R 6 (fcI c 0).toInt = R := by
    have : (fcI c 0).toInt = R 6 := rfl
    rw [this, sset_self]
  have key : ∀ Q : zO → zI → Prop, wz W 1 45 [.ref q, .int (jI a), .int (jI b), .int (jI c), .int (jI d), .int (jI ((0 : Nat) : Int))] [] (jm (jrow J q (sset R 6 (fcI c 0).toInt))) Q = wz W 1 45 [.ref q, .int (jI a), .int (jI b), .int (jI c), .int (jI d), .int (jI (b.toNat : Int))] [] (jm (jrow J q (sset R 6 (fcI c b.toNat).toInt))) Q := fun Q => zloop (f := fun k : Nat => wz W 1 45 [.ref q, .int (jI a), .int (jI b), .int (jI c), .int (jI d), .int (jI (k : Int))] [] (jm (jrow J q (sset R 6 (fcI c k).toInt))) Q) b.toNat (fun k hk => by
    try simp only
    have e6 : jm (jrow J q (sset R 6 (fcI c k).toInt)) q 6 = fcI c k := by
      show jI (jrow J q (sset R 6 (fcI c k).toInt) q 6) = _
      rw [jrow_same, sset_eq rfl, jI_of]
    rw [sg_1_45 (hc := hq), if_neg (by rw [jI_le (by omega) (by omega) (by omega) (by omega)]; omega), e6]
    have ef : fcI c k ||| (jI 1 <<< ((jI (k : Int) * jI c) &&& 31)) = jI (fcI c (k + 1)).toInt := (jI_of _).symm
    rw [ef, jI_add]
    simp (disch := first | assumption | omega) only [jm_n, jz_n, i_lit, jrow_same, jrow_jrow, sset_ss]
    rfl)
  have hfc : fcI c b.toNat = mk (b * c).toNat (fun k => decide (k % c = 0)) := by
    have h9 := fcI_mk b.toNat (by omega) c.toNat (by omega) (by omega)
    rw [Int.toNat_of_nonneg (by omega)] at h9
    rw [h9]
    have : (b * c).toNat = b.toNat * c.toNat := by
      have hb : b = (b.toNat : Int) := by omega
      have hc' : c = (c.toNat : Int) := by omega
      rw [hb, hc']
      exact Int.toNat_natCast (b.toNat * c.toNat)
    rw [this]
  refine ⟨jrow J q (sset R 6 (fcI c b.toNat).toInt), fun Q => ?_, fun r hr => jrow_ne hr, ?_, ?_, ?_, ?_, ?_, ?_, ?_⟩
  · have k1 := key Q
    rw [hR6] at k1
    rw [l0]
    refine Eq.trans k1 ?_
    rw [sg_1_45 (hc := hq), if_pos (by rw [jI_le (by omega) (by omega) (by omega) (by omega)]; omega)]
  · rw [jrow_same]; rfl
  · rw [jrow_same]; rfl
  · rw [jrow_same]; rfl
  · rw [jrow_same]; rfl
  · rw [jrow_same]; rfl
  · rw [jrow_same]
    show jI ((mk (b * c).toNat (fun _ => true)).toInt) = _
    rw [jI_of]
  · rw [jrow_same, sset_eq rfl, jI_of, hfc]
/-- addDoor, addOrder, addPallet, clear -/
theorem sp_2 {q : Nat} (hq : zChb q) {r c : Int} : wz W 2 0 [.ref q, .int (jI r), .int (jI c)] [] (jm J) Q = Q oV (jm (jrow J q (sset (J q) 4 (dorV (J q 4) (r * J q 2 + c))))) := by
  rw [sg_2_0 (hc := hq)]
  have e4 : jm J q 4 = jI (J q 4) := rfl
  have e2 : jm J q 2 = jI (J q 2) := rfl
  rw [e4, e2, jI_mul, jI_add]
  have e : jI (J q 4) ||| (jI 1 <<< (jI (r * J q 2 + c) &&& 31)) = jI (dorV (J q 4) (r * J q 2 + c)) := (jI_of _).symm
  rw [e]
  simp (disch := first | assumption | omega) only [jz_n, i_lit]
theorem sp_56 (hu : zStp u) {a b c : Int} (h0 : 0 ≤ J u 6) (h1 : J u 6 < 10) : wz W 56 0 [.ref u, .int (jI a), .int (jI b), .int (jI c)] [] (jm J) Q = Q oV (jm (jrow (jrow (jrow (jrow J (u + 5 + 1) (sset (J (u + 5 + 1)) (J u 6) a)) (u + 7 + 1) (sset (J (u + 7 + 1)) (J u 6) b)) (u + 9 + 1) (sset (J (u + 9 + 1)) (J u 6) c)) u (sset (J u) 6 (J u 6 + 1)))) := by
  rw [sg_56_0 (hs := hu)]
  simp (disch := first | assumption | omega) only [zk_l, zk_r, Option.toList_some, Option.toList_none, List.cons_append, List.nil_append, zrokB, zrokB0, zrokB1, zrokJ0, zrokJ1, and_true, true_and, and_self, if_true, if_false, b2_0, b2_1, b2_not, ite_self, Int.add_zero, jI_nat, jI_add, jI_sub, jI_mul, jI_neg, jI_lt, jI_le, jI_eq, jI_lt0, jI_0lt, jI_le0, jI_0le, jI_eq0, jI_in, jI_dv, i_mod, jI_cl, jm_n, jz_n, i_lit, i_c0, i_c1, Int.toNat_of_nonneg, Int.toNat_natCast, jrow_same, jrow_ne, jrow_jrow, sset_eq, sset_ne]
  rw [sp_46 (zStp_r7 hu) (by omega) (by omega) (by decide)]
  simp only [zk_l, zk_r, Option.toList_some, Option.toList_none, List.cons_append, List.nil_append, zrokB, zrokB0, zrokB1, zrokJ0, zrokJ1, and_true, true_and, and_self, if_true, if_false, b2_0, b2_1, b2_not, ite_self]
  rw [sg_56_12 (hs := hu)]
  simp (disch := first | assumption | omega) only [zk_l, zk_r, Option.toList_some, Option.toList_none, List.cons_append, List.nil_append, zrokB, zrokB0, zrokB1, zrokJ0, zrokJ1, and_true, true_and, and_self, if_true, if_false, b2_0, b2_1, b2_not, ite_self, Int.add_zero, jI_nat, jI_add, jI_sub, jI_mul, jI_neg, jI_lt, jI_le, jI_eq, jI_lt0, jI_0lt, jI_le0, jI_0le, jI_eq0, jI_in, jI_dv, i_mod, jI_cl, jm_n, jz_n, i_lit, i_c0, i_c1, Int.toNat_of_nonneg, Int.toNat_natCast, jrow_same, jrow_ne, jrow_jrow, sset_eq, sset_ne]
  rw [sp_46 (zStp_r8 hu) (by omega) (by omega) (by decide)]
  simp only [zk_l, zk_r, Option.toList_some, Option.toList_none, List.cons_append, List.nil_append, zrokB, zrokB0, zrokB1, zrokJ0, zrokJ1, and_true, true_and, and_self, if_true, if_false, b2_0, b2_1, b2_not, ite_self]
  rw [sg_56_24 (hs := hu)]
  simp (disch := first | assumption | omega) only [zk_l, zk_r, Option.toList_some, Option.toList_none, List.cons_append, List.nil_append, zrokB, zrokB0, zrokB1, zrokJ0, zrokJ1, and_true, true_and, and_self, if_true, if_false, b2_0, b2_1, b2_not, ite_self, Int.add_zero, jI_nat, jI_add, jI_sub, jI_mul, jI_neg, jI_lt, jI_le, jI_eq, jI_lt0, jI_0lt, jI_le0, jI_0le, jI_eq0, jI_in, jI_dv, i_mod, jI_cl, jm_n, jz_n, i_lit, i_c0, i_c1, Int.toNat_of_nonneg, Int.toNat_natCast, jrow_same, jrow_ne, jrow_jrow, sset_eq, sset_ne]
  rw [sp_46 (zStp_r9 hu) (by omega) (by omega) (by decide)]
  simp only [zk_l, zk_r, Option.toList_some, Option.toList_none, List.cons_append, List.nil_append, zrokB, zrokB0, zrokB1, zrokJ0, zrokJ1, and_true, true_and, and_self, if_true, if_false, b2_0, b2_1, b2_not, ite_self]
  rw [sg_56_36 (hs := hu)]
  simp (disch := first | assumption | omega) only [zk_l, zk_r, Option.toList_some, Option.toList_none, List.cons_append, List.nil_append, zrokB, zrokB0, zrokB1, zrokJ0, zrokJ1, and_true, true_and, and_self, if_true, if_false, b2_0, b2_1, b2_not, ite_self, Int.add_zero, jI_nat, jI_add, jI_sub, jI_mul, jI_neg, jI_lt, jI_le, jI_eq, jI_lt0, jI_0lt, jI_le0, jI_0le, jI_eq0, jI_in, jI_dv, i_mod, jI_cl, jm_n, jz_n, i_lit, i_c0, i_c1, Int.toNat_of_nonneg, Int.toNat_natCast, jrow_same, jrow_ne, jrow_jrow, sset_eq, sset_ne]
theorem sp_57 (hu : zStp u) {a : Int} (h0 : 0 ≤ J u 10) (h1 : J u 10 < 8) : wz W 57 0 [.ref u, .int (jI a)] [] (jm J) Q = Q oV (jm (jrow (jrow J (u + 11 + 1) (sset (J (u + 11 + 1)) (J u 10) a)) u (sset (J u) 10 (J u 10 + 1)))) := by
  rw [sg_57_0 (hs := hu)]
  simp (disch := first | assumption | omega) only [zk_l, zk_r, Option.toList_some, Option.toList_none, List.cons_append, List.nil_append, zrokB, zrokB0, zrokB1, zrokJ0, zrokJ1, and_true, true_and, and_self, if_true, if_false, b2_0, b2_1, b2_not, ite_self, Int.add_zero, jI_nat, jI_add, jI_sub, jI_mul, jI_neg, jI_lt, jI_le, jI_eq, jI_lt0, jI_0lt, jI_le0, jI_0le, jI_eq0, jI_in, jI_dv, i_mod, jI_cl, jm_n, jz_n, i_lit, i_c0, i_c1, Int.toNat_of_nonneg, Int.toNat_natCast, jrow_same, jrow_ne, jrow_jrow, sset_eq, sset_ne]
  rw [sp_46 (zStp_r11 hu) (by omega) (by omega) (by decide)]
  simp only [zk_l, zk_r, Option.toList_some, Option.toList_none, List.cons_append, List.nil_append, zrokB, zrokB0, zrokB1, zrokJ0, zrokJ1, and_true, true_and, and_self, if_true, if_false, b2_0, b2_1, b2_not, ite_self]
  rw [sg_57_12 (hs := hu)]
  simp (disch := first | assumption | omega) only [zk_l, zk_r, Option.toList_some, Option.toList_none, List.cons_append, List.nil_append, zrokB, zrokB0, zrokB1, zrokJ0, zrokJ1, and_true, true_and, and_self, if_true, if_false, b2_0, b2_1, b2_not, ite_self, Int.add_zero, jI_nat, jI_add, jI_sub, jI_mul, jI_neg, jI_lt, jI_le, jI_eq, jI_lt0, jI_0lt, jI_le0, jI_0le, jI_eq0, jI_in, jI_dv, i_mod, jI_cl, jm_n, jz_n, i_lit, i_c0, i_c1, Int.toNat_of_nonneg, Int.toNat_natCast, jrow_same, jrow_ne, jrow_jrow, sset_eq, sset_ne]
theorem sp_51 (hu : zStp u) : wz W 51 0 [.ref u] [] (jm J) Q = Q oV (jm (jrow J u (sset (sset (sset (sset (sset (sset (sset (sset (sset (J u) 0 0) 3 0) 6 0) 10 0) 12 100) 13 10) 14 12) 15 0) 16 0))) := by
  rw [sg_51_0 (hs := hu)]
  simp (disch := first | assumption | omega) only [jm_n, jz_n, i_lit, i_c0, i_c1, jrow_same, jrow_jrow]
end
/-! setups that grow -/
section
variable {J J' : zJ} {u : Nat} {s : Int → Int} {hl hq : Int}
theorem RP_0 {r : Int → Int} (h : J' u = sset (sset (sset (sset (sset (sset (sset (sset (sset (J u) 0 0) 3 0) 6 0) 10 0) 12 100) 13 10) 14 12) 15 0) 16 0) : RP J' u (s000 r) 0 0 := by
  obtain ⟨q1, q2, q3⟩ := s000_123 r
  have e4 := s000_v (r := r) (j := 4) (by omega)
  have e5 := s000_v (r := r) (j := 5) (by omega)
  have e6 := s000_v (r := r) (j := 6) (by omega)
  have e7 := s000_v (r := r) (j := 7) (by omega)
  refine ⟨by rw [h, e5]; rfl, by rw [h, e4]; rfl, by rw [h, e7]; rfl, by rw [h, e6]; rfl, by rw [h, q1]; rfl, by rw [h, q2]; rfl, by rw [h, q3]; rfl, by rw [h]; rfl, by rw [h]; rfl, fun g a b => by omega, fun g a b => by omega, fun g a b => by omega, fun g a b => by omega⟩
theorem nC_cg {t : Int → Int} {c c' : Int} (h1 : t (12 + 8 * c + 1) = s (12 + 8 * c' + 1)) (h2 : t (12 + 8 * c + 2) = s (12 + 8 * c' + 2)) : nC t c = nC s c' ∧ gC t c = gC s c' := by
  unfold nC gR gC
  rw [h1, h2]
  exact ⟨rfl, rfl⟩
theorem RP_Ch {a b c d : Int} (h : RP J u s hl hq) (hO : okR s hl hq) (h4 : s 4 < 3) (fr : ∀ r, u ≤ r → r ≤ u + 21 → r ≠ u → r ≠ u + 19 + (s 4).toNat → J' r = J r) (hu' : J' u = sset (J u) 3 (s 4 + 1)) (q0 : J' (u + 19 + (s 4).toNat) 0 = a) (q1 : J' (u + 19 + (s 4).toNat) 1 = b) (q2 : J' (u + 19 + (s 4).toNat) 2 = c) (q3 : J' (u + 19 + (s 4).toNat) 3 = d) (q4 : J' (u + 19 + (s 4).toNat) 4 = 0) (q5 : jI (J' (u + 19 + (s 4).toNat) 5) = mk (b * c).toNat (fun _ => true)) (q6 : jI (J' (u + 19 + (s 4).toNat) 6) = mk (b * c).toNat (fun k => decide (k % c = 0))) : RP J' u (fCh s a b c d) hl hq := by
  obtain ⟨⟨hB, -⟩, -, hL, -⟩ := hO
  obtain ⟨x1, x2, x3, x4, x5, x6, x7, x8, x9, x10, x11, x12⟩ := hB
  have hd := (hL.2.2.2.2.2.2.2.2.1 (s 4) x7 h4).2.2.1 (Int.le_refl _)
  have ht : ∀ j, (j < 12 + 8 * s 4 ∨ 12 + 8 * s 4 + 3 < j) ∧ j ≠ 4 → fCh s a b c d j = s j := fun j hj => by
    unfold fCh
    rw [sset_ne (by omega), sset_ne (by omega), sset_ne (by omega), sset_ne (by omega), sset_ne (by omega)]
  have v0 : fCh s a b c d (12 + 8 * s 4) = a := by
    unfold fCh
    rw [sset_ne (by omega), sset_ne (by omega), sset_ne (by omega), sset_ne (by omega), sset_eq rfl]
  have v1 : fCh s a b c d (12 + 8 * s 4 + 1) = b := by
    unfold fCh
    rw [sset_ne (by omega), sset_ne (by omega), sset_ne (by omega), sset_eq rfl]
  have v2 : fCh s a b c d (12 + 8 * s 4 + 2) = c := by
    unfold fCh
    rw [sset_ne (by omega), sset_ne (by omega), sset_eq rfl]
  have v3 : fCh s a b c d (12 + 8 * s 4 + 3) = d := by
    unfold fCh
    rw [sset_ne (by omega), sset_eq rfl]
  have v4 : fCh s a b c d 4 = s 4 + 1 := by
    unfold fCh
    rw [sset_eq rfl]
  generalize fCh s a b c d = t at *
  obtain ⟨a1, a2, a3, a4, a5, a6, a7, a8, a9, hg, hc, ho, hp⟩ := h
  have hn : ∀ j, j ≠ 3 → J' u j = J u j := fun j hj => by rw [hu', sset_ne hj]
  refine ⟨by rw [hn 0 (by decide), ht 5 (by omega)]; exact a1, by rw [hu', sset_eq rfl, v4], by rw [hn 6 (by decide), ht 7 (by omega)]; exact a3, by rw [hn 10 (by decide), ht 6 (by omega)]; exact a4, by rw [hn 12 (by decide), ht 1 (by omega)]; exact a5, by rw [hn 13 (by decide), ht 2 (by omega)]; exact a6, by rw [hn 14 (by decide), ht 3 (by omega)]; exact a7, by rw [hn 15 (by decide)]; exact a8, by rw [hn 16 (by decide)]; exact a9, fun g g0 g1 => ?_, fun k k0 k1 => ?_, fun o o0 o1 => ?_, fun p p0 p1 => ?_⟩
  · rw [ht 5 (by omega)] at g1
    rw [fr _ (by omega) (by omega) (by omega) (by omega), ht (36 + 6 * g) (by omega), ht (36 + 6 * g + 1) (by omega), ht (36 + 6 * g + 2) (by omega), ht (36 + 6 * g + 3) (by omega), ht (36 + 6 * g + 4) (by omega), ht (36 + 6 * g + 5) (by omega)]
    exact hg g g0 g1
  · by_cases e : k = s 4
    · subst e
      have hnc : nC t (s 4) = (b * c).toNat ∧ gC t (s 4) = c := by
        unfold nC gR gC
        rw [v1, v2]
        exact ⟨rfl, rfl⟩
      rw [hnc.1, hnc.2, v0, v1, v2, v3, ht (12 + 8 * s 4 + 6) (by omega), hd]
      exact ⟨q0, q1, q2, q3, q4, q5, q6⟩
    · obtain ⟨n1, n2⟩ := nC_cg (s := s) (t := t) (c := k) (c' := k) (ht _ (by omega)) (ht _ (by omega))
      rw [fr _ (by omega) (by omega) (by omega) (by omega), ht (12 + 8 * k) (by omega), ht (12 + 8 * k + 1) (by omega), ht (12 + 8 * k + 2) (by omega), ht (12 + 8 * k + 3) (by omega), ht (12 + 8 * k + 6) (by omega), n1, n2]
      exact hc k k0 (by omega)
  · rw [ht 7 (by omega)] at o1
    rw [fr _ (by omega) (by omega) (by omega) (by omega), fr _ (show u ≤ u + 7 + 1 by omega) (by omega) (by omega) (by omega), fr _ (show u ≤ u + 9 + 1 by omega) (by omega) (by omega) (by omega), ht (352 + 4 * o) (by omega), ht (352 + 4 * o + 1) (by omega), ht (352 + 4 * o + 2) (by omega)]
    exact ho o o0 o1
  · rw [ht 6 (by omega)] at p1
    rw [fr _ (by omega) (by omega) (by omega) (by omega), ht (72 + 7 * p) (by omega)]
    exact hp p p0 p1
theorem RP_Dr {k r c : Int} (h : RP J u s hl hq) (hO : okR s hl hq) (k0 : 0 ≤ k) (k1 : k < s 4) (e : J' = jrow J (u + 19 + k.toNat) (sset (J (u + 19 + k.toNat)) 4 (dorV (J (u + 19 + k.toNat) 4) (r * J (u + 19 + k.toNat) 2 + c)))) : RP J' u (fDr s k r c) hl hq := by
  obtain ⟨⟨hB, -⟩, -, hL, -⟩ := hO
  obtain ⟨x1, x2, x3, x4, x5, x6, x7, x8, x9, x10, x11, x12⟩ := hB
  obtain ⟨a1, a2, a3, a4, a5, a6, a7, a8, a9, hg, hc, ho, hp⟩ := h
  have ht : ∀ j, j ≠ 12 + 8 * k + 6 → fDr s k r c j = s j := fun j hj => by
    unfold fDr
    rw [sset_ne hj]
  have v6 : fDr s k r c (12 + 8 * k + 6) = dorV (s (12 + 8 * k + 6)) (r * s (12 + 8 * k + 2) + c) := by
    unfold fDr
    rw [sset_eq rfl]
  generalize fDr s k r c = t at *
  have fr : ∀ q, q ≠ u + 19 + k.toNat → J' q = J q := fun q hq => by rw [e, jrow_ne hq]
  refine ⟨by rw [fr u (by omega), ht 5 (by omega)]; exact a1, by rw [fr u (by omega), ht 4 (by omega)]; exact a2, by rw [fr u (by omega), ht 7 (by omega)]; exact a3, by rw [fr u (by omega), ht 6 (by omega)]; exact a4, by rw [fr u (by omega), ht 1 (by omega)]; exact a5, by rw [fr u (by omega), ht 2 (by omega)]; exact a6, by rw [fr u (by omega), ht 3 (by omega)]; exact a7, by rw [fr u (by omega)]; exact a8, by rw [fr u (by omega)]; exact a9, fun g g0 g1 => ?_, fun q q0 q1 => ?_, fun o o0 o1 => ?_, fun p p0 p1 => ?_⟩
  · rw [ht 5 (by omega)] at g1
    rw [fr _ (by omega), ht (36 + 6 * g) (by omega), ht (36 + 6 * g + 1) (by omega), ht (36 + 6 * g + 2) (by omega), ht (36 + 6 * g + 3) (by omega), ht (36 + 6 * g + 4) (by omega), ht (36 + 6 * g + 5) (by omega)]
    exact hg g g0 g1
  · rw [ht 4 (by omega)] at q1
    obtain ⟨n1, n2⟩ := nC_cg (s := s) (t := t) (c := q) (c' := q) (ht _ (by omega)) (ht _ (by omega))
    obtain ⟨y0, y1, y2, y3, y4, y5, y6⟩ := hc q q0 q1
    rw [ht (12 + 8 * q) (by omega), ht (12 + 8 * q + 1) (by omega), ht (12 + 8 * q + 2) (by omega), ht (12 + 8 * q + 3) (by omega), n1, n2]
    by_cases e9 : q = k
    · subst e9
      rw [v6, e, jrow_same, sset_ne (by decide), sset_ne (by decide), sset_ne (by decide), sset_ne (by decide), sset_eq rfl, sset_ne (by decide), sset_ne (by decide), ← y4, ← y2]
      exact ⟨y0, y1, rfl, y3, rfl, y5, y6⟩
    · rw [fr _ (by omega), ht (12 + 8 * q + 6) (by omega)]
      exact ⟨y0, y1, y2, y3, y4, y5, y6⟩
  · rw [ht 7 (by omega)] at o1
    rw [fr _ (by omega), fr (u + 7 + 1) (by omega), fr (u + 9 + 1) (by omega), ht (352 + 4 * o) (by omega), ht (352 + 4 * o + 1) (by omega), ht (352 + 4 * o + 2) (by omega)]
    exact ho o o0 o1
  · rw [ht 6 (by omega)] at p1
    rw [fr _ (by omega), ht (72 + 7 * p) (by omega)]
    exact hp p p0 p1
theorem RP_Gd {a b c d x y : Int} (h : RP J u s hl hq) (hO : okR s hl hq) (h5 : s 5 < 6) (fr : ∀ r, u ≤ r → r ≤ u + 21 → r ≠ u → r ≠ u + 13 + (s 5).toNat → J' r = J r) (hu' : J' u = sset (J u) 0 (s 5 + 1)) (q1 : J' (u + 13 + (s 5).toNat) 1 = a) (q2 : J' (u + 13 + (s 5).toNat) 2 = b) (q3 : J' (u + 13 + (s 5).toNat) 3 = c) (q4 : J' (u + 13 + (s 5).toNat) 4 = d) (q5 : J' (u + 13 + (s 5).toNat) 5 = x) (q6 : J' (u + 13 + (s 5).toNat) 6 = y) : RP J' u (fGd s a b c d x y) hl hq := by
  obtain ⟨⟨hB, -⟩, -, hL, -⟩ := hO
  obtain ⟨x1, x2, x3, x4, x5, x6, x7, x8, x9, x10, x11, x12⟩ := hB
  have ht : ∀ j, (j < 36 + 6 * s 5 ∨ 36 + 6 * s 5 + 5 < j) ∧ j ≠ 5 → fGd s a b c d x y j = s j := fun j hj => by
    unfold fGd
    rw [sset_ne (by omega), sset_ne (by omega), sset_ne (by omega), sset_ne (by omega), sset_ne (by omega), sset_ne (by omega), sset_ne (by omega)]
  have v0 : fGd s a b c d x y (36 + 6 * s 5) = a := by
    unfold fGd
    rw [sset_ne (by omega), sset_ne (by omega), sset_ne (by omega), sset_ne (by omega), sset_ne (by omega), sset_ne (by omega), sset_eq rfl]
  have v1 : fGd s a b c d x y (36 + 6 * s 5 + 1) = b := by
    unfold fGd
    rw [sset_ne (by omega), sset_ne (by omega), sset_ne (by omega), sset_ne (by omega), sset_ne (by omega), sset_eq rfl]
  have v2 : fGd s a b c d x y (36 + 6 * s 5 + 2) = c := by
    unfold fGd
    rw [sset_ne (by omega), sset_ne (by omega), sset_ne (by omega), sset_ne (by omega), sset_eq rfl]
  have v3 : fGd s a b c d x y (36 + 6 * s 5 + 3) = d := by
    unfold fGd
    rw [sset_ne (by omega), sset_ne (by omega), sset_ne (by omega), sset_eq rfl]
  have v4 : fGd s a b c d x y (36 + 6 * s 5 + 4) = x := by
    unfold fGd
    rw [sset_ne (by omega), sset_ne (by omega), sset_eq rfl]
  have v5 : fGd s a b c d x y (36 + 6 * s 5 + 5) = y := by
    unfold fGd
    rw [sset_ne (by omega), sset_eq rfl]
  have v9 : fGd s a b c d x y 5 = s 5 + 1 := by
    unfold fGd
    rw [sset_eq rfl]
  generalize fGd s a b c d x y = t at *
  obtain ⟨a1, a2, a3, a4, a5, a6, a7, a8, a9, hg, hc, ho, hp⟩ := h
  have hn : ∀ j, j ≠ 0 → J' u j = J u j := fun j hj => by rw [hu', sset_ne hj]
  refine ⟨by rw [hu', sset_eq rfl, v9], by rw [hn 3 (by decide), ht 4 (by omega)]; exact a2, by rw [hn 6 (by decide), ht 7 (by omega)]; exact a3, by rw [hn 10 (by decide), ht 6 (by omega)]; exact a4, by rw [hn 12 (by decide), ht 1 (by omega)]; exact a5, by rw [hn 13 (by decide), ht 2 (by omega)]; exact a6, by rw [hn 14 (by decide), ht 3 (by omega)]; exact a7, by rw [hn 15 (by decide)]; exact a8, by rw [hn 16 (by decide)]; exact a9, fun g g0 g1 => ?_, fun k k0 k1 => ?_, fun o o0 o1 => ?_, fun p p0 p1 => ?_⟩
  · by_cases e : g = s 5
    · subst e
      rw [v0, v1, v2, v3, v4, v5]
      exact ⟨q1, q2, q3, q4, q5, q6⟩
    · rw [fr _ (by omega) (by omega) (by omega) (by omega), ht (36 + 6 * g) (by omega), ht (36 + 6 * g + 1) (by omega), ht (36 + 6 * g + 2) (by omega), ht (36 + 6 * g + 3) (by omega), ht (36 + 6 * g + 4) (by omega), ht (36 + 6 * g + 5) (by omega)]
      exact hg g g0 (by omega)
  · rw [ht 4 (by omega)] at k1
    obtain ⟨n1, n2⟩ := nC_cg (s := s) (t := t) (c := k) (c' := k) (ht _ (by omega)) (ht _ (by omega))
    rw [fr _ (by omega) (by omega) (by omega) (by omega), ht (12 + 8 * k) (by omega), ht (12 + 8 * k + 1) (by omega), ht (12 + 8 * k + 2) (by omega), ht (12 + 8 * k + 3) (by omega), ht (12 + 8 * k + 6) (by omega), n1, n2]
    exact hc k k0 k1
  · rw [ht 7 (by omega)] at o1
    rw [fr _ (by omega) (by omega) (by omega) (by omega), fr _ (show u ≤ u + 7 + 1 by omega) (by omega) (by omega) (by omega), fr _ (show u ≤ u + 9 + 1 by omega) (by omega) (by omega) (by omega), ht (352 + 4 * o) (by omega), ht (352 + 4 * o + 1) (by omega), ht (352 + 4 * o + 2) (by omega)]
    exact ho o o0 o1
  · rw [ht 6 (by omega)] at p1
    rw [fr _ (by omega) (by omega) (by omega) (by omega), ht (72 + 7 * p) (by omega)]
    exact hp p p0 p1
theorem RP_Pl {g : Int} (h : RP J u s hl hq) (hO : okR s hl hq) (h6 : s 6 < 8) (e : J' = jrow (jrow J (u + 11 + 1) (sset (J (u + 11 + 1)) (J u 10) g)) u (sset (J u) 10 (J u 10 + 1))) : RP J' u (fAdd s g) hl hq := by
  obtain ⟨⟨hB, -⟩, -, hL, -⟩ := hO
  obtain ⟨x1, x2, x3, x4, x5, x6, x7, x8, x9, x10, x11, x12⟩ := hB
  obtain ⟨l0, l9, l10, l8, l6a, l6b, lp, lx, lc, lo⟩ := hL
  obtain ⟨a1, a2, a3, a4, a5, a6, a7, a8, a9, hg, hc, ho, hp⟩ := h
  have ht : ∀ j, (j < 72 + 7 * s 6 ∨ 72 + 7 * s 6 + 7 ≤ j) ∧ j ≠ 392 + s 8 ∧ j ≠ 8 ∧ j ≠ 6 → fAdd s g j = s j := by
    intro j hj
    unfold fAdd
    simp (disch := first | assumption | omega) only [sset_ne, zro_ne]
  have t6 : fAdd s g 6 = s 6 + 1 := by unfold fAdd; simp (disch := first | assumption | omega) only [sset_ne, sset_eq]
  have tp0 : fAdd s g (72 + 7 * s 6) = g := by unfold fAdd; simp (disch := first | assumption | omega) only [sset_ne, sset_eq]
  generalize fAdd s g = t at *
  have fr : ∀ q, q ≠ u → q ≠ u + 11 + 1 → J' q = J q := fun q h1 h2 => by rw [e, jrow_ne h1, jrow_ne h2]
  have hu' : J' u = sset (J u) 10 (s 6 + 1) := by rw [e, jrow_same, a4]
  have h12 : J' (u + 11 + 1) = sset (J (u + 11 + 1)) (s 6) g := by rw [e, jrow_ne (by omega), jrow_same, a4]
  have hn : ∀ j, j ≠ 10 → J' u j = J u j := fun j hj => by rw [hu', sset_ne hj]
  refine ⟨by rw [hn 0 (by decide), ht 5 (by omega)]; exact a1, by rw [hn 3 (by decide), ht 4 (by omega)]; exact a2, by rw [hn 6 (by decide), ht 7 (by omega)]; exact a3, by rw [hu', sset_eq rfl, t6], by rw [hn 12 (by decide), ht 1 (by omega)]; exact a5, by rw [hn 13 (by decide), ht 2 (by omega)]; exact a6, by rw [hn 14 (by decide), ht 3 (by omega)]; exact a7, by rw [hn 15 (by decide)]; exact a8, by rw [hn 16 (by decide)]; exact a9, fun x g0 g1 => ?_, fun k k0 k1 => ?_, fun o o0 o1 => ?_, fun p p0 p1 => ?_⟩
  · rw [ht 5 (by omega)] at g1
    rw [fr _ (by omega) (by omega), ht (36 + 6 * x) (by omega), ht (36 + 6 * x + 1) (by omega), ht (36 + 6 * x + 2) (by omega), ht (36 + 6 * x + 3) (by omega), ht (36 + 6 * x + 4) (by omega), ht (36 + 6 * x + 5) (by omega)]
    exact hg x g0 g1
  · rw [ht 4 (by omega)] at k1
    obtain ⟨n1, n2⟩ := nC_cg (s := s) (t := t) (c := k) (c' := k) (ht _ (by omega)) (ht _ (by omega))
    rw [fr _ (by omega) (by omega), ht (12 + 8 * k) (by omega), ht (12 + 8 * k + 1) (by omega), ht (12 + 8 * k + 2) (by omega), ht (12 + 8 * k + 3) (by omega), ht (12 + 8 * k + 6) (by omega), n1, n2]
    exact hc k k0 k1
  · rw [ht 7 (by omega)] at o1
    rw [fr _ (by omega) (by omega), fr (u + 7 + 1) (by omega) (by omega), fr (u + 9 + 1) (by omega) (by omega), ht (352 + 4 * o) (by omega), ht (352 + 4 * o + 1) (by omega), ht (352 + 4 * o + 2) (by omega)]
    exact ho o o0 o1
  · rw [h12]
    by_cases e9 : p = s 6
    · rw [e9, sset_eq rfl, tp0]
    · rw [sset_ne e9, ht (72 + 7 * p) (by omega)]
      exact hp p p0 (by omega)
theorem RP_Or {a b c : Int} (h : RP J u s hl hq) (hO : okR s hl hq) (h7 : s 7 < 10) (e : J' = jrow (jrow (jrow (jrow J (u + 5 + 1) (sset (J (u + 5 + 1)) (J u 6) a)) (u + 7 + 1) (sset (J (u + 7 + 1)) (J u 6) b)) (u + 9 + 1) (sset (J (u + 9 + 1)) (J u 6) c)) u (sset (J u) 6 (J u 6 + 1))) : RP J' u (fOr s a b c) hl hq := by
  obtain ⟨⟨hB, -⟩, -, hL, -⟩ := hO
  obtain ⟨x1, x2, x3, x4, x5, x6, x7, x8, x9, x10, x11, x12⟩ := hB
  obtain ⟨l0, l9, l10, l8, l6a, l6b, lp, lx, lc, lo⟩ := hL
  obtain ⟨a1, a2, a3, a4, a5, a6, a7, a8, a9, hg, hc, ho, hp⟩ := h
  have ht : ∀ j, (j < 352 + 4 * s 7 ∨ 352 + 4 * s 7 + 2 < j) ∧ j ≠ 7 → fOr s a b c j = s j := fun j hj => by
    unfold fOr
    rw [sset_ne (by omega), sset_ne (by omega), sset_ne (by omega), sset_ne (by omega)]
  have v0 : fOr s a b c (352 + 4 * s 7) = a := by
    unfold fOr
    rw [sset_ne (by omega), sset_ne (by omega), sset_ne (by omega), sset_eq rfl]
  have v1 : fOr s a b c (352 + 4 * s 7 + 1) = b := by
    unfold fOr
    rw [sset_ne (by omega), sset_ne (by omega), sset_eq rfl]
  have v2 : fOr s a b c (352 + 4 * s 7 + 2) = c := by
    unfold fOr
    rw [sset_ne (by omega), sset_eq rfl]
  have v9 : fOr s a b c 7 = s 7 + 1 := by
    unfold fOr
    rw [sset_eq rfl]
  generalize fOr s a b c = t at *
  have fr : ∀ q, q ≠ u → q ≠ u + 5 + 1 → q ≠ u + 7 + 1 → q ≠ u + 9 + 1 → J' q = J q := fun q h1 h2 h3 h4 => by rw [e, jrow_ne h1, jrow_ne h4, jrow_ne h3, jrow_ne h2]
  have hu' : J' u = sset (J u) 6 (s 7 + 1) := by rw [e, jrow_same, a3]
  have h6' : J' (u + 5 + 1) = sset (J (u + 5 + 1)) (s 7) a := by rw [e, jrow_ne (by omega), jrow_ne (by omega), jrow_ne (by omega), jrow_same, a3]
  have h8' : J' (u + 7 + 1) = sset (J (u + 7 + 1)) (s 7) b := by rw [e, jrow_ne (by omega), jrow_ne (by omega), jrow_same, a3]
  have h10' : J' (u + 9 + 1) = sset (J (u + 9 + 1)) (s 7) c := by rw [e, jrow_ne (by omega), jrow_same, a3]
  have hn : ∀ j, j ≠ 6 → J' u j = J u j := fun j hj => by rw [hu', sset_ne hj]
  refine ⟨by rw [hn 0 (by decide), ht 5 (by omega)]; exact a1, by rw [hn 3 (by decide), ht 4 (by omega)]; exact a2, by rw [hu', sset_eq rfl, v9], by rw [hn 10 (by decide), ht 6 (by omega)]; exact a4, by rw [hn 12 (by decide), ht 1 (by omega)]; exact a5, by rw [hn 13 (by decide), ht 2 (by omega)]; exact a6, by rw [hn 14 (by decide), ht 3 (by omega)]; exact a7, by rw [hn 15 (by decide)]; exact a8, by rw [hn 16 (by decide)]; exact a9, fun x g0 g1 => ?_, fun k k0 k1 => ?_, fun o o0 o1 => ?_, fun p p0 p1 => ?_⟩
  · rw [ht 5 (by omega)] at g1
    rw [fr _ (by omega) (by omega) (by omega) (by omega), ht (36 + 6 * x) (by omega), ht (36 + 6 * x + 1) (by omega), ht (36 + 6 * x + 2) (by omega), ht (36 + 6 * x + 3) (by omega), ht (36 + 6 * x + 4) (by omega), ht (36 + 6 * x + 5) (by omega)]
    exact hg x g0 g1
  · rw [ht 4 (by omega)] at k1
    obtain ⟨n1, n2⟩ := nC_cg (s := s) (t := t) (c := k) (c' := k) (ht _ (by omega)) (ht _ (by omega))
    rw [fr _ (by omega) (by omega) (by omega) (by omega), ht (12 + 8 * k) (by omega), ht (12 + 8 * k + 1) (by omega), ht (12 + 8 * k + 2) (by omega), ht (12 + 8 * k + 3) (by omega), ht (12 + 8 * k + 6) (by omega), n1, n2]
    exact hc k k0 k1
  · rw [h6', h8', h10']
    by_cases e9 : o = s 7
    · rw [e9, sset_eq rfl, sset_eq rfl, sset_eq rfl, v0, v1, v2]
      exact ⟨rfl, rfl, rfl⟩
    · rw [sset_ne e9, sset_ne e9, sset_ne e9, ht (352 + 4 * o) (by omega), ht (352 + 4 * o + 1) (by omega), ht (352 + 4 * o + 2) (by omega)]
      exact ho o o0 (by omega)
  · rw [ht 6 (by omega)] at p1
    rw [fr _ (by omega) (by omega) (by omega) (by omega), ht (72 + 7 * p) (by omega)]
    exact hp p p0 p1
/-- only the numbers in the setup itself -/
theorem RP_lo {t : Int → Int} {hl' hq' : Int} (h : RP J u s hl hq) (h5 : s 5 ≤ 6) (h4 : s 4 ≤ 3) (ht : ∀ j, ¬ (1 ≤ j ∧ j ≤ 3) → t j = s j) (fr : ∀ q, u ≤ q → q ≤ u + 21 → q ≠ u → J' q = J q) (hn : ∀ j, j < 12 → J' u j = J u j) (v1 : J' u 12 = t 1) (v2 : J' u 13 = t 2) (v3 : J' u 14 = t 3) (v4 : J' u 15 = hl') (v5 : J' u 16 = hq') : RP J' u t hl' hq' := by
  obtain ⟨a1, a2, a3, a4, a5, a6, a7, a8, a9, hg, hc, ho, hp⟩ := h
  refine ⟨by rw [hn 0 (by decide), ht 5 (by omega)]; exact a1, by rw [hn 3 (by decide), ht 4 (by omega)]; exact a2, by rw [hn 6 (by decide), ht 7 (by omega)]; exact a3, by rw [hn 10 (by decide), ht 6 (by omega)]; exact a4, v1, v2, v3, v4, v5, fun x g0 g1 => ?_, fun k k0 k1 => ?_, fun o o0 o1 => ?_, fun p p0 p1 => ?_⟩
  · rw [ht 5 (by omega)] at g1
    rw [fr _ (by omega) (by omega) (by omega), ht (36 + 6 * x) (by omega), ht (36 + 6 * x + 1) (by omega), ht (36 + 6 * x + 2) (by omega), ht (36 + 6 * x + 3) (by omega), ht (36 + 6 * x + 4) (by omega), ht (36 + 6 * x + 5) (by omega)]
    exact hg x g0 g1
  · rw [ht 4 (by omega)] at k1
    obtain ⟨n1, n2⟩ := nC_cg (s := s) (t := t) (c := k) (c' := k) (ht _ (by omega)) (ht _ (by omega))
    rw [fr _ (by omega) (by omega) (by omega), ht (12 + 8 * k) (by omega), ht (12 + 8 * k + 1) (by omega), ht (12 + 8 * k + 2) (by omega), ht (12 + 8 * k + 3) (by omega), ht (12 + 8 * k + 6) (by omega), n1, n2]
    exact hc k k0 k1
  · rw [ht 7 (by omega)] at o1
    rw [fr _ (by omega) (by omega) (by omega), fr (u + 7 + 1) (by omega) (by omega) (by omega), fr (u + 9 + 1) (by omega) (by omega) (by omega), ht (352 + 4 * o) (by omega), ht (352 + 4 * o + 1) (by omega), ht (352 + 4 * o + 2) (by omega)]
    exact ho o o0 o1
  · rw [ht 6 (by omega)] at p1
    rw [fr _ (by omega) (by omega) (by omega), ht (72 + 7 * p) (by omega)]
    exact hp p p0 p1
end
