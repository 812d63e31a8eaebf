/-! ===== the class: statements ===== -/
/-- what a statement ends in, in the class -/
def cSt (f : Int → Int) (n : Int) (u : Nat) (J' : zJ) (o : zO) (r : Int ⊕ (pSt × Int)) : Prop := match r with
  | .inl p => o = oB false ∧ J' 3 3 = p ∧ J' 3 1 = n
  | .inr (s, e') => o = oB true ∧ PC f n J' e' ∧ RP J' u s.1 s.2.1 s.2.2
theorem PC_r {f : Int → Int} {n e : Int} {J J' : zJ} (h : PC f n J e) (h3 : J' 3 = J 3) : PC f n J' e := by
  unfold PC at h ⊢
  rw [h3]
  exact h
theorem fU_qq {u q : Nat} {J J' : zJ} (h1 : u ≤ q) (h2 : q ≤ u + 21) (F : ∀ r, r ≠ 3 → r ≠ q → J' r = J r) (Z : J' q 0 = J q 0) : fU u J J' := by
  refine ⟨fun r a b => F r a (by omega), fun g g0 g1 => ?_⟩
  by_cases c : u + 13 + g.toNat = q
  · rw [c]; exact Z
  · rw [F _ (by omega) c]
section
variable {W : zW} {J : zJ} {Q : zO → zI → Prop} {f : Int → Int} {n e : Int} {u : Nat} {s : Int → Int} {hl hq : Int}
theorem sp_28 (hu : zStp u) (u5 : u = 5 ∨ u = 27) (ht : txt (J 2) f n) (hp : PC f n J e) (e0 : 0 ≤ e) (e1 : e ≤ n) (hR : RP J u s hl hq) (hO : okR s hl hq) (h3 : s 4 < 3) :
    ∃ o J', (∀ Q : zO → zI → Prop, wz W 28 0 [.ref 3, .ref u, .float 0, .float 0, .float 0] [] (jm J) Q = Q o (jm J')) ∧ fU u J J' ∧ cSt f n u J' o (pCh f n s hl hq e) := by
  have hO' := hO
  obtain ⟨⟨hB, hC, hG, hOo⟩, hN, hL, hh⟩ := hO'
  obtain ⟨x1, x2, x3, x4, x5, x6, x7, x8, x9, x10, x11, x12⟩ := hB
  have hS := tqS_b (f := f) e1
  have hE := tqE_b (f := f) e1
  have ug : 5 ≤ u := by omega
  obtain ⟨J1, r1, pc1, v1, f1⟩ := sp_39e (W := W) (J := J) (f := f) (n := n) (e := tqE f n e) ht hp.1 hp.2.2.2 (by omega) (by omega)
  have F1 : ∀ r, r ≠ 3 → J1 r = J r := f1
  have ht1 : txt (J1 2) f n := by rw [F1 2 (by decide)]; exact ht
  have R1 : ∀ Q : zO → zI → Prop, wz W 28 0 [.ref 3, .ref u, .float 0, .float 0, .float 0] [] (jm J) Q = wz W 28 4 [.ref 3, .ref u, .float 0, .float 0, .float 0] [] (jm J1) Q := by
    intro Q
    rw [sg_28_0 (hp1 := hu), r1]
    simp only [zk_l, zk_r, Option.toList_some, Option.toList_none, List.cons_append, List.nil_append, zrokB, zrokB0, zrokB1, zrokJ0, zrokJ1, and_true, true_and, and_self, if_true, if_false, b2_0, b2_1, b2_not, ite_self]
  unfold pCh
  rw [if_neg (by omega)]
  obtain ⟨o2, J2, r2, f2, c2⟩ := sp_35 (W := W) (J := J1) (f := f) (n := n) (e := (tqE f n e)) hu ug ht1 pc1 (by omega) (by omega) (RP_fr hR x10 x8 (fun r a b => F1 r (by omega))) hO
  have F2 : ∀ r, r ≠ 3 → J2 r = J1 r := f2
  show ∃ o J', _ ∧ fU u J J' ∧ cSt f n u J' o (pB (pNm f n s (tqE f n e)) _)
  cases hq2 : pNm f n s (tqE f n e) with
  | inl p =>
    rw [hq2] at c2
    obtain ⟨rfl, p3, p1⟩ := c2
    refine ⟨oI 0, J2, fun Q => ?_, fU_3 ug (fun r hr => by rw [F2 r hr, F1 r hr]), ⟨rfl, p3, p1⟩⟩
    rw [R1, sg_28_4 (hp1 := hu)]
    skip
    rw [r2]
    simp only [zk_l, zk_r, Option.toList_some, Option.toList_none, List.cons_append, List.nil_append, zrokB, zrokB0, zrokB1, zrokJ0, zrokJ1, and_true, true_and, and_self, if_true, if_false, b2_0, b2_1, b2_not, ite_self]
    rw [sg_28_9 (hp1 := hu), if_pos (by decide)]
  | inr v =>
    obtain ⟨a2, e2⟩ := v
    have hb2 := pNm_e (by omega) hq2
    rw [hq2] at c2
    obtain ⟨rfl, pc2, w2⟩ := c2
    have ht2 : txt (J2 2) f n := by rw [F2 2 (by decide)]; exact ht1
    have R2 : ∀ Q : zO → zI → Prop, wz W 28 0 [.ref 3, .ref u, .float 0, .float 0, .float 0] [] (jm J) Q = wz W 28 9 [.ref 3, .ref u, .float 0, .float 0, .float 0] [.int (b2 true)] (jm J2) Q := by
      intro Q
      rw [R1, sg_28_4 (hp1 := hu)]
      skip
      rw [r2]
      simp only [zk_l, zk_r, Option.toList_some, Option.toList_none, List.cons_append, List.nil_append, zrokB, zrokB0, zrokB1, zrokJ0, zrokJ1, and_true, true_and, and_self, if_true, if_false, b2_0, b2_1, b2_not, ite_self]
    obtain ⟨o3, J3, r3, f3, c3⟩ := sp_38u (W := W) (J := J2) (f := f) (n := n) (e := e2) (lo := 1) (hi := 6) ht2 pc2 (by omega) (by omega) (by omega) (by omega) (by omega) (by omega)
    have F3 : ∀ r, r ≠ 3 → J3 r = J2 r := f3
    show ∃ o J', _ ∧ fU u J J' ∧ cSt f n u J' o (pB (pNu f n 1 6 e2) _)
    cases hq3 : pNu f n 1 6 e2 with
    | inl p =>
      rw [hq3] at c3
      obtain ⟨rfl, p3, p1⟩ := c3
      refine ⟨oI 0, J3, fun Q => ?_, fU_3 ug (fun r hr => by rw [F3 r hr, F2 r hr, F1 r hr]), ⟨rfl, p3, p1⟩⟩
      rw [R2, sg_28_9 (hp1 := hu), if_neg (by decide)]
      simp (disch := first | assumption | omega) only [w2, jm_n, i_lit]
      rw [r3]
      simp only [zk_l, zk_r, Option.toList_some, Option.toList_none, List.cons_append, List.nil_append, zrokB, zrokB0, zrokB1, zrokJ0, zrokJ1, and_true, true_and, and_self, if_true, if_false, b2_0, b2_1, b2_not, ite_self]
      rw [sg_28_27 (hp1 := hu), if_pos (by decide)]
    | inr v =>
      obtain ⟨a3, e3⟩ := v
      have hb3 := pSg_e (by omega) hq3
      rw [hq3] at c3
      obtain ⟨rfl, pc3, w3⟩ := c3
      have ht3 : txt (J3 2) f n := by rw [F3 2 (by decide)]; exact ht2
      have R3 : ∀ Q : zO → zI → Prop, wz W 28 0 [.ref 3, .ref u, .float 0, .float 0, .float 0] [] (jm J) Q = wz W 28 27 [.ref 3, .ref u, .int (jI a2), .float 0, .float 0] [.int (b2 true)] (jm J3) Q := by
        intro Q
        rw [R2, sg_28_9 (hp1 := hu), if_neg (by decide)]
        simp (disch := first | assumption | omega) only [w2, jm_n, i_lit]
        rw [r3]
        simp only [zk_l, zk_r, Option.toList_some, Option.toList_none, List.cons_append, List.nil_append, zrokB, zrokB0, zrokB1, zrokJ0, zrokJ1, and_true, true_and, and_self, if_true, if_false, b2_0, b2_1, b2_not, ite_self]
      obtain ⟨o4, J4, r4, f4, c4⟩ := sp_38u (W := W) (J := J3) (f := f) (n := n) (e := e3) (lo := 1) (hi := 4) ht3 pc3 (by omega) (by omega) (by omega) (by omega) (by omega) (by omega)
      have F4 : ∀ r, r ≠ 3 → J4 r = J3 r := f4
      show ∃ o J', _ ∧ fU u J J' ∧ cSt f n u J' o (pB (pNu f n 1 4 e3) _)
      cases hq4 : pNu f n 1 4 e3 with
      | inl p =>
        rw [hq4] at c4
        obtain ⟨rfl, p3, p1⟩ := c4
        refine ⟨oI 0, J4, fun Q => ?_, fU_3 ug (fun r hr => by rw [F4 r hr, F3 r hr, F2 r hr, F1 r hr]), ⟨rfl, p3, p1⟩⟩
        rw [R3, sg_28_27 (hp1 := hu), if_neg (by decide)]
        simp (disch := first | assumption | omega) only [w3, jm_n, i_lit]
        rw [r4]
        simp only [zk_l, zk_r, Option.toList_some, Option.toList_none, List.cons_append, List.nil_append, zrokB, zrokB0, zrokB1, zrokJ0, zrokJ1, and_true, true_and, and_self, if_true, if_false, b2_0, b2_1, b2_not, ite_self]
        rw [sg_28_44 (hp1 := hu), if_pos (by decide)]
      | inr v =>
        obtain ⟨a4, e4⟩ := v
        have hb4 := pSg_e (by omega) hq4
        rw [hq4] at c4
        obtain ⟨rfl, pc4, w4⟩ := c4
        have ht4 : txt (J4 2) f n := by rw [F4 2 (by decide)]; exact ht3
        have R4 : ∀ Q : zO → zI → Prop, wz W 28 0 [.ref 3, .ref u, .float 0, .float 0, .float 0] [] (jm J) Q = wz W 28 44 [.ref 3, .ref u, .int (jI a2), .int (jI a3), .float 0] [.int (b2 true)] (jm J4) Q := by
          intro Q
          rw [R3, sg_28_27 (hp1 := hu), if_neg (by decide)]
          simp (disch := first | assumption | omega) only [w3, jm_n, i_lit]
          rw [r4]
          simp only [zk_l, zk_r, Option.toList_some, Option.toList_none, List.cons_append, List.nil_append, zrokB, zrokB0, zrokB1, zrokJ0, zrokJ1, and_true, true_and, and_self, if_true, if_false, b2_0, b2_1, b2_not, ite_self]
        obtain ⟨o5, J5, r5, f5, c5⟩ := sp_38s (W := W) (J := J4) (f := f) (n := n) (e := e4) (lo := (-30)) (hi := 20) ht4 pc4 (by omega) (by omega) (by omega) (by omega) (by omega) (by omega)
        have F5 : ∀ r, r ≠ 3 → J5 r = J4 r := f5
        show ∃ o J', _ ∧ fU u J J' ∧ cSt f n u J' o (pB (pTe f n (-30) 20 e4) _)
        cases hq5 : pTe f n (-30) 20 e4 with
        | inl p =>
          rw [hq5] at c5
          obtain ⟨rfl, p3, p1⟩ := c5
          refine ⟨oI 0, J5, fun Q => ?_, fU_3 ug (fun r hr => by rw [F5 r hr, F4 r hr, F3 r hr, F2 r hr, F1 r hr]), ⟨rfl, p3, p1⟩⟩
          rw [R4, sg_28_44 (hp1 := hu), if_neg (by decide)]
          simp (disch := first | assumption | omega) only [w4, jm_n, i_lit]
          rw [r5]
          simp only [zk_l, zk_r, Option.toList_some, Option.toList_none, List.cons_append, List.nil_append, zrokB, zrokB0, zrokB1, zrokJ0, zrokJ1, and_true, true_and, and_self, if_true, if_false, b2_0, b2_1, b2_not, ite_self]
          rw [sg_28_64 (hp1 := hu), if_pos (by decide)]
        | inr v =>
          obtain ⟨a5, e5⟩ := v
          have hb5 := pTe_e (by omega) hq5
          rw [hq5] at c5
          obtain ⟨rfl, pc5, w5⟩ := c5
          have ht5 : txt (J5 2) f n := by rw [F5 2 (by decide)]; exact ht4
          have R5 : ∀ Q : zO → zI → Prop, wz W 28 0 [.ref 3, .ref u, .float 0, .float 0, .float 0] [] (jm J) Q = wz W 28 64 [.ref 3, .ref u, .int (jI a2), .int (jI a3), .int (jI a4)] [.int (b2 true)] (jm J5) Q := by
            intro Q
            rw [R4, sg_28_44 (hp1 := hu), if_neg (by decide)]
            simp (disch := first | assumption | omega) only [w4, jm_n, i_lit]
            rw [r5]
            simp only [zk_l, zk_r, Option.toList_some, Option.toList_none, List.cons_append, List.nil_append, zrokB, zrokB0, zrokB1, zrokJ0, zrokJ1, and_true, true_and, and_self, if_true, if_false, b2_0, b2_1, b2_not, ite_self]
          have u3 : J5 u 3 = s 4 := by rw [F5 u (by omega), F4 u (by omega), F3 u (by omega), F2 u (by omega), F1 u (by omega)]; exact hR.2.1
          have hq1 : zChb (u + 19 + (s 4).toNat) := zStp_c hu (by omega)
          obtain ⟨J6, r6, f6, q0, q1, q2, q3, q4, q5, q6⟩ := sp_1 (W := W) (J := J5) hq1 (a := a2) (b := a3) (c := a4) (d := a5) (by omega) (by omega) (by omega) (by omega)
          have u63 : J6 u 3 = s 4 := by rw [f6 u (by omega)]; exact u3
          have fr6 : ∀ r, r ≠ 3 → r ≠ u + 19 + (s 4).toNat → J6 r = J r := fun r h1 h2 => by rw [f6 r h2, F5 r h1, F4 r h1, F3 r h1, F2 r h1, F1 r h1]
          refine ⟨oI 1, jrow J6 u (sset (J6 u) 3 (s 4 + 1)), fun Q => ?_, fU_t ⟨fun r h1 h2 => fr6 r h1 (by omega), fun g g0 g1 => by rw [fr6 _ (by omega) (by omega)]⟩ (fU_r (Nat.le_refl _) (by omega) (fun h1 h2 => by omega)), ⟨rfl, ?_, ?_⟩⟩
          · rw [R5, sg_28_64 (hp1 := hu), if_neg (by decide)]
            simp (disch := first | assumption | omega) only [u3, jm_n, i_lit]
            rw [sp_53 hu (by omega) (by omega)]
            simp only [zk_l, zk_r, Option.toList_some, Option.toList_none, List.cons_append, List.nil_append, zrokB, zrokB0, zrokB1, zrokJ0, zrokJ1, and_true, true_and, and_self, if_true, if_false, b2_0, b2_1, b2_not, ite_self]
            rw [sg_28_77 (hp1 := hu) (hqt0 := hq1)]
            simp (disch := first | assumption | omega) only [w5, jm_n, i_lit]
            rw [r6]
            simp only [zk_l, zk_r, Option.toList_some, Option.toList_none, List.cons_append, List.nil_append, zrokB, zrokB0, zrokB1, zrokJ0, zrokJ1, and_true, true_and, and_self, if_true, if_false, b2_0, b2_1, b2_not, ite_self]
            rw [sg_28_88 (hp1 := hu)]
            simp (disch := first | assumption | omega) only [u63, jI_add, jm_n, jz_n, i_lit]
          · exact PC_r pc5 (by rw [jrow_ne (by omega), f6 3 (by omega)])
          · refine RP_Ch (J := J) hR hO h3 (fun r h1 h2 h4 h5 => by rw [jrow_ne h4]; exact fr6 r (by omega) h5) (by rw [jrow_same, fr6 u (by omega) (by omega)]) ?_ ?_ ?_ ?_ ?_ ?_ ?_ <;> rw [jrow_ne (by omega)] <;> assumption
theorem sp_29 (hu : zStp u) (u5 : u = 5 ∨ u = 27) (ht : txt (J 2) f n) (hp : PC f n J e) (e0 : 0 ≤ e) (e1 : e ≤ n) (hR : RP J u s hl hq) (hO : okR s hl hq) :
    ∃ o J', (∀ Q : zO → zI → Prop, wz W 29 0 [.ref 3, .ref u, .float 0, .float 0] [] (jm J) Q = Q o (jm J')) ∧ fU u J J' ∧ cSt f n u J' o (pDr f n s hl hq e) := by
  have hO' := hO
  obtain ⟨⟨hB, hC, hG, hOo⟩, hN, hL, hh⟩ := hO'
  obtain ⟨x1, x2, x3, x4, x5, x6, x7, x8, x9, x10, x11, x12⟩ := hB
  have hS := tqS_b (f := f) e1
  have hE := tqE_b (f := f) e1
  have ug : 5 ≤ u := by omega
  obtain ⟨J1, r1, pc1, v1, f1⟩ := sp_39e (W := W) (J := J) (f := f) (n := n) (e := tqE f n e) ht hp.1 hp.2.2.2 (by omega) (by omega)
  have F1 : ∀ r, r ≠ 3 → J1 r = J r := f1
  have ht1 : txt (J1 2) f n := by rw [F1 2 (by decide)]; exact ht
  have R1 : ∀ Q : zO → zI → Prop, wz W 29 0 [.ref 3, .ref u, .float 0, .float 0] [] (jm J) Q = wz W 29 4 [.ref 3, .ref u, .float 0, .float 0] [] (jm J1) Q := by
    intro Q
    rw [sg_29_0 (hp1 := hu), r1]
    simp only [zk_l, zk_r, Option.toList_some, Option.toList_none, List.cons_append, List.nil_append, zrokB, zrokB0, zrokB1, zrokJ0, zrokJ1, and_true, true_and, and_self, if_true, if_false, b2_0, b2_1, b2_not, ite_self]
  unfold pDr
  obtain ⟨o2, J2, r2, f2, c2⟩ := sp_36 (W := W) (J := J1) (f := f) (n := n) (e := (tqE f n e)) hu ug ht1 pc1 (by omega) (by omega) (RP_fr hR x10 x8 (fun r a b => F1 r (by omega))) hO
  have F2 : ∀ r, r ≠ 3 → J2 r = J1 r := f2
  show ∃ o J', _ ∧ fU u J J' ∧ cSt f n u J' o (pB (pCn f n s (tqE f n e)) _)
  cases hq2 : pCn f n s (tqE f n e) with
  | inl p =>
    rw [hq2] at c2
    obtain ⟨rfl, p3, p1⟩ := c2
    refine ⟨oI 0, J2, fun Q => ?_, fU_3 ug (fun r hr => by rw [F2 r hr, F1 r hr]), ⟨rfl, p3, p1⟩⟩
    rw [R1, sg_29_4 (hp1 := hu)]
    skip
    rw [r2]
    simp only [zk_l, zk_r, Option.toList_some, Option.toList_none, List.cons_append, List.nil_append, zrokB, zrokB0, zrokB1, zrokJ0, zrokJ1, and_true, true_and, and_self, if_true, if_false, b2_0, b2_1, b2_not, ite_self]
    rw [sg_29_9 (hp1 := hu), if_pos (by decide)]
  | inr v =>
    obtain ⟨a2, e2⟩ := v
    have hb2 := pCn_e (by omega) hq2
    rw [hq2] at c2
    obtain ⟨rfl, pc2, w2⟩ := c2
    have ht2 : txt (J2 2) f n := by rw [F2 2 (by decide)]; exact ht1
    have R2 : ∀ Q : zO → zI → Prop, wz W 29 0 [.ref 3, .ref u, .float 0, .float 0] [] (jm J) Q = wz W 29 9 [.ref 3, .ref u, .float 0, .float 0] [.int (b2 true)] (jm J2) Q := by
      intro Q
      rw [R1, sg_29_4 (hp1 := hu)]
      skip
      rw [r2]
      simp only [zk_l, zk_r, Option.toList_some, Option.toList_none, List.cons_append, List.nil_append, zrokB, zrokB0, zrokB1, zrokJ0, zrokJ1, and_true, true_and, and_self, if_true, if_false, b2_0, b2_1, b2_not, ite_self]
    have hqx : zChb (u + 19 + a2.toNat) := zStp_c hu (by omega)
    obtain ⟨y0, y1, y2, y3, y4, y5, y6⟩ := hR.2.2.2.2.2.2.2.2.2.2.1 a2 (by omega) (by omega)
    obtain ⟨z1, z2, z3, z4, z5⟩ := hC a2 (by omega) (by omega)
    have k1 : J2 (u + 19 + a2.toNat) 1 = s (12 + 8 * a2 + 1) := by rw [F2 _ (by omega), F1 _ (by omega)]; exact y1
    have R2b : ∀ Q : zO → zI → Prop, wz W 29 0 [.ref 3, .ref u, .float 0, .float 0] [] (jm J) Q = wz W 38 0 [.ref 3, .int (jI 0), .int (jI (s (12 + 8 * a2 + 1) - 1)), .int (jI 0), .float 0, .float 0] [] (jm J2) (zk Q (fun v I1 => wz W 29 35 [.ref 3, .ref u, .ref (u + 19 + a2.toNat), .float 0] (v.toList ++ []) I1 Q)) := by
      intro Q
      rw [R2, sg_29_9 (hp1 := hu), if_neg (by decide)]
      simp (disch := first | assumption | omega) only [w2, jm_n, i_lit]
      rw [sp_53 hu (by omega) (by omega)]
      simp only [zk_l, zk_r, Option.toList_some, Option.toList_none, List.cons_append, List.nil_append, zrokB, zrokB0, zrokB1, zrokJ0, zrokJ1, and_true, true_and, and_self, if_true, if_false, b2_0, b2_1, b2_not, ite_self]
      rw [sg_29_22 (hp1 := hu) (hqt0 := hqx)]
      simp (disch := first | assumption | omega) only [k1, jI_sub, jm_n, i_lit]
    obtain ⟨o3, J3, r3, f3, c3⟩ := sp_38u (W := W) (J := J2) (f := f) (n := n) (e := e2) (lo := 0) (hi := s (12 + 8 * a2 + 1) - 1) ht2 pc2 (by omega) (by omega) (by omega) (by omega) (by omega) (by omega)
    have F3 : ∀ r, r ≠ 3 → J3 r = J2 r := f3
    show ∃ o J', _ ∧ fU u J J' ∧ cSt f n u J' o (pB (pNu f n 0 (s (12 + 8 * a2 + 1) - 1) e2) _)
    cases hq3 : pNu f n 0 (s (12 + 8 * a2 + 1) - 1) e2 with
    | inl p =>
      rw [hq3] at c3
      obtain ⟨rfl, p3, p1⟩ := c3
      refine ⟨oI 0, J3, fun Q => ?_, fU_3 ug (fun r hr => by rw [F3 r hr, F2 r hr, F1 r hr]), ⟨rfl, p3, p1⟩⟩
      rw [R2b, r3]
      simp only [zk_l, zk_r, Option.toList_some, Option.toList_none, List.cons_append, List.nil_append, zrokB, zrokB0, zrokB1, zrokJ0, zrokJ1, and_true, true_and, and_self, if_true, if_false, b2_0, b2_1, b2_not, ite_self]
      rw [sg_29_35 (hp1 := hu) (hqx2 := hqx), if_pos (by decide)]
    | inr v =>
      obtain ⟨a3, e3⟩ := v
      have hb3 := pSg_e (by omega) hq3
      rw [hq3] at c3
      obtain ⟨rfl, pc3, w3⟩ := c3
      have ht3 : txt (J3 2) f n := by rw [F3 2 (by decide)]; exact ht2
      have k2 : J3 (u + 19 + a2.toNat) 2 = s (12 + 8 * a2 + 2) := by rw [F3 _ (by omega), F2 _ (by omega), F1 _ (by omega)]; exact y2
      have R3 : ∀ Q : zO → zI → Prop, wz W 29 0 [.ref 3, .ref u, .float 0, .float 0] [] (jm J) Q = wz W 38 0 [.ref 3, .int (jI 0), .int (jI (s (12 + 8 * a2 + 2) - 1)), .int (jI 0), .float 0, .float 0] [] (jm J3) (zk Q (fun v I1 => wz W 29 57 [.ref 3, .ref u, .ref (u + 19 + a2.toNat), .int (jI a3)] (v.toList ++ []) I1 Q)) := by
        intro Q
        rw [R2b, r3]
        simp only [zk_l, zk_r, Option.toList_some, Option.toList_none, List.cons_append, List.nil_append, zrokB, zrokB0, zrokB1, zrokJ0, zrokJ1, and_true, true_and, and_self, if_true, if_false, b2_0, b2_1, b2_not, ite_self]
        rw [sg_29_35 (hp1 := hu) (hqx2 := hqx), if_neg (by decide)]
        simp (disch := first | assumption | omega) only [w3, k2, jI_sub, jm_n, i_lit]
      obtain ⟨o4, J4, r4, f4, c4⟩ := sp_38u (W := W) (J := J3) (f := f) (n := n) (e := e3) (lo := 0) (hi := s (12 + 8 * a2 + 2) - 1) ht3 pc3 (by omega) (by omega) (by omega) (by omega) (by omega) (by omega)
      have F4 : ∀ r, r ≠ 3 → J4 r = J3 r := f4
      show ∃ o J', _ ∧ fU u J J' ∧ cSt f n u J' o (pB (pNu f n 0 (s (12 + 8 * a2 + 2) - 1) e3) _)
      cases hq4 : pNu f n 0 (s (12 + 8 * a2 + 2) - 1) e3 with
      | inl p =>
        rw [hq4] at c4
        obtain ⟨rfl, p3, p1⟩ := c4
        refine ⟨oI 0, J4, fun Q => ?_, fU_3 ug (fun r hr => by rw [F4 r hr, F3 r hr, F2 r hr, F1 r hr]), ⟨rfl, p3, p1⟩⟩
        rw [R3, r4]
        simp only [zk_l, zk_r, Option.toList_some, Option.toList_none, List.cons_append, List.nil_append, zrokB, zrokB0, zrokB1, zrokJ0, zrokJ1, and_true, true_and, and_self, if_true, if_false, b2_0, b2_1, b2_not, ite_self]
        rw [sg_29_57 (hp1 := hu) (hqx2 := hqx), if_pos (by decide)]
      | inr v =>
        obtain ⟨a4, e4⟩ := v
        have hb4 := pSg_e (by omega) hq4
        rw [hq4] at c4
        obtain ⟨rfl, pc4, w4⟩ := c4
        have fr4 : ∀ r, r ≠ 3 → J4 r = J r := fun r h1 => by rw [F4 r h1, F3 r h1, F2 r h1, F1 r h1]
        refine ⟨oI 1, jrow J4 (u + 19 + a2.toNat) (sset (J4 (u + 19 + a2.toNat)) 4 (dorV (J4 (u + 19 + a2.toNat) 4) (a3 * J4 (u + 19 + a2.toNat) 2 + a4))), fun Q => ?_, fU_t (fU_3 ug fr4) (fU_r (by omega) (by omega) (fun h1 h2 => by omega)), ⟨rfl, PC_r pc4 (jrow_ne (by omega)), ?_⟩⟩
        · rw [R3, r4]
          simp only [zk_l, zk_r, Option.toList_some, Option.toList_none, List.cons_append, List.nil_append, zrokB, zrokB0, zrokB1, zrokJ0, zrokJ1, and_true, true_and, and_self, if_true, if_false, b2_0, b2_1, b2_not, ite_self]
          rw [sg_29_57 (hp1 := hu) (hqx2 := hqx), if_neg (by decide)]
          simp (disch := first | assumption | omega) only [w4, jm_n, i_lit]
          rw [sp_2 hqx]
          simp only [zk_l, zk_r, Option.toList_some, Option.toList_none, List.cons_append, List.nil_append, zrokB, zrokB0, zrokB1, zrokJ0, zrokJ1, and_true, true_and, and_self, if_true, if_false, b2_0, b2_1, b2_not, ite_self]
          rw [sg_29_71 (hp1 := hu) (hqx2 := hqx)]
        · exact RP_Dr (J := J4) (RP_fr hR x10 x8 (fun r a b => fr4 r (by omega))) hO (by omega) (by omega) rfl
theorem sp_30 (hu : zStp u) (u5 : u = 5 ∨ u = 27) (ht : txt (J 2) f n) (hp : PC f n J e) (e0 : 0 ≤ e) (e1 : e ≤ n) (hR : RP J u s hl hq) (hO : okR s hl hq) (h3 : s 5 < 6) :
    ∃ o J', (∀ Q : zO → zI → Prop, wz W 30 0 [.ref 3, .ref u, .float 0] [] (jm J) Q = Q o (jm J')) ∧ fU u J J' ∧ cSt f n u J' o (pGd f n s hl hq e) := by
  have hO' := hO
  obtain ⟨⟨hB, hC, hG, hOo⟩, hN, hL, hh⟩ := hO'
  obtain ⟨x1, x2, x3, x4, x5, x6, x7, x8, x9, x10, x11, x12⟩ := hB
  have hS := tqS_b (f := f) e1
  have hE := tqE_b (f := f) e1
  have ug : 5 ≤ u := by omega
  obtain ⟨J1, r1, pc1, v1, f1⟩ := sp_39e (W := W) (J := J) (f := f) (n := n) (e := tqE f n e) ht hp.1 hp.2.2.2 (by omega) (by omega)
  have F1 : ∀ r, r ≠ 3 → J1 r = J r := f1
  have ht1 : txt (J1 2) f n := by rw [F1 2 (by decide)]; exact ht
  have R1 : ∀ Q : zO → zI → Prop, wz W 30 0 [.ref 3, .ref u, .float 0] [] (jm J) Q = wz W 30 4 [.ref 3, .ref u, .float 0] [] (jm J1) Q := by
    intro Q
    rw [sg_30_0 (hp1 := hu), r1]
    simp only [zk_l, zk_r, Option.toList_some, Option.toList_none, List.cons_append, List.nil_append, zrokB, zrokB0, zrokB1, zrokJ0, zrokJ1, and_true, true_and, and_self, if_true, if_false, b2_0, b2_1, b2_not, ite_self]
  unfold pGd
  rw [if_neg (by omega)]
  have hqx : zGds (u + 13 + (s 5).toNat) := zStp_g hu (by omega)
  obtain ⟨o2, J2, r2, f2, c2⟩ := sp_35 (W := W) (J := J1) (f := f) (n := n) (e := (tqE f n e)) hu ug ht1 pc1 (by omega) (by omega) (RP_fr hR x10 x8 (fun r a b => F1 r (by omega))) hO
  have F2 : ∀ r, r ≠ 3 → J2 r = J1 r := f2
  show ∃ o J', _ ∧ fU u J J' ∧ cSt f n u J' o (pB (pNm f n s (tqE f n e)) _)
  cases hq2 : pNm f n s (tqE f n e) with
  | inl p =>
    rw [hq2] at c2
    obtain ⟨rfl, p3, p1⟩ := c2
    refine ⟨oI 0, J2, fun Q => ?_, fU_3 ug (fun r hr => by rw [F2 r hr, F1 r hr]), ⟨rfl, p3, p1⟩⟩
    rw [R1, sg_30_4 (hp1 := hu)]
    skip
    rw [r2]
    simp only [zk_l, zk_r, Option.toList_some, Option.toList_none, List.cons_append, List.nil_append, zrokB, zrokB0, zrokB1, zrokJ0, zrokJ1, and_true, true_and, and_self, if_true, if_false, b2_0, b2_1, b2_not, ite_self]
    rw [sg_30_9 (hp1 := hu), if_pos (by decide)]
  | inr v =>
    obtain ⟨a2, e2⟩ := v
    have hb2 := pNm_e (by omega) hq2
    rw [hq2] at c2
    obtain ⟨rfl, pc2, w2⟩ := c2
    have ht2 : txt (J2 2) f n := by rw [F2 2 (by decide)]; exact ht1
    have R2 : ∀ Q : zO → zI → Prop, wz W 30 0 [.ref 3, .ref u, .float 0] [] (jm J) Q = wz W 30 9 [.ref 3, .ref u, .float 0] [.int (b2 true)] (jm J2) Q := by
      intro Q
      rw [R1, sg_30_4 (hp1 := hu)]
      skip
      rw [r2]
      simp only [zk_l, zk_r, Option.toList_some, Option.toList_none, List.cons_append, List.nil_append, zrokB, zrokB0, zrokB1, zrokJ0, zrokJ1, and_true, true_and, and_self, if_true, if_false, b2_0, b2_1, b2_not, ite_self]
    have u0 : J2 u 0 = s 5 := by rw [F2 u (by omega), F1 u (by omega)]; exact hR.1
    let K2 : zJ := jrow J2 (u + 13 + (s 5).toNat) (sset (J2 (u + 13 + (s 5).toNat)) 1 a2)
    have pk2 : PC f n K2 e2 := PC_r pc2 (jrow_ne (by omega))
    have htk2 : txt (K2 2) f n := by
      show txt (jrow J2 (u + 13 + (s 5).toNat) _ 2) f n
      rw [jrow_ne (by omega)]
      exact ht2
    have R2b : ∀ Q : zO → zI → Prop, wz W 30 0 [.ref 3, .ref u, .float 0] [] (jm J) Q = wz W 38 0 [.ref 3, .int (jI (-30)), .int (jI 20), .int (jI 1), .float 0, .float 0] [] (jm K2) (zk Q (fun v I1 => wz W 30 40 [.ref 3, .ref u, .ref (u + 13 + (s 5).toNat)] (v.toList ++ []) I1 Q)) := by
      intro Q
      rw [R2, sg_30_9 (hp1 := hu), if_neg (by decide)]
      simp (disch := first | assumption | omega) only [u0, jm_n, i_lit]
      rw [sp_52 hu (by omega) (by omega)]
      simp only [zk_l, zk_r, Option.toList_some, Option.toList_none, List.cons_append, List.nil_append, zrokB, zrokB0, zrokB1, zrokJ0, zrokJ1, and_true, true_and, and_self, if_true, if_false, b2_0, b2_1, b2_not, ite_self]
      rw [sg_30_22 (hp1 := hu) (hqt0 := hqx)]
      simp (disch := first | assumption | omega) only [w2, jm_n, jz_n, i_lit, i_c1]
      rfl
    obtain ⟨o3, J3, r3, f3, c3⟩ := sp_38s (W := W) (J := K2) (f := f) (n := n) (e := e2) (lo := (-30)) (hi := 20) htk2 pk2 (by omega) (by omega) (by omega) (by omega) (by omega) (by omega)
    have F3 : ∀ r, r ≠ 3 → r ≠ u + 13 + (s 5).toNat → J3 r = J r := fun r h1 h2 => by
      rw [f3 r h1]
      show jrow J2 (u + 13 + (s 5).toNat) _ r = _
      rw [jrow_ne h2, F2 r h1, F1 r h1]
    have Z3 : J3 (u + 13 + (s 5).toNat) 0 = J (u + 13 + (s 5).toNat) 0 := by
      rw [f3 _ (by omega)]
      show jrow J2 (u + 13 + (s 5).toNat) _ (u + 13 + (s 5).toNat) 0 = _
      rw [jrow_same, sset_ne (by decide), F2 _ (by omega), F1 _ (by omega)]
    show ∃ o J', _ ∧ fU u J J' ∧ cSt f n u J' o (pB (pTe f n (-30) 20 e2) _)
    cases hq3 : pTe f n (-30) 20 e2 with
    | inl p =>
      rw [hq3] at c3
      obtain ⟨rfl, p3, p1⟩ := c3
      refine ⟨oI 0, J3, fun Q => ?_, fU_qq (by omega) (by omega) F3 Z3, ⟨rfl, p3, p1⟩⟩
      rw [R2b, r3]
      simp only [zk_l, zk_r, Option.toList_some, Option.toList_none, List.cons_append, List.nil_append, zrokB, zrokB0, zrokB1, zrokJ0, zrokJ1, and_true, true_and, and_self, if_true, if_false, b2_0, b2_1, b2_not, ite_self]
      rw [sg_30_40 (hp1 := hu) (hqx2 := hqx), if_pos (by decide)]
    | inr v =>
      obtain ⟨a3, e3⟩ := v
      have hb3 := pTe_e (by omega) hq3
      rw [hq3] at c3
      obtain ⟨rfl, pc3, w3⟩ := c3
      have ht3 : txt (J3 2) f n := by rw [F3 2 (by decide) (by omega)]; exact ht
      let K3 : zJ := jrow J3 (u + 13 + (s 5).toNat) (sset (J3 (u + 13 + (s 5).toNat)) 2 a3)
      have pk3 : PC f n K3 e3 := PC_r pc3 (jrow_ne (by omega))
      have htk3 : txt (K3 2) f n := by
        show txt (jrow J3 (u + 13 + (s 5).toNat) _ 2) f n
        rw [jrow_ne (by omega)]
        exact ht3
      have R3b : ∀ Q : zO → zI → Prop, wz W 30 0 [.ref 3, .ref u, .float 0] [] (jm J) Q = wz W 38 0 [.ref 3, .int (jI a3), .int (jI 20), .int (jI 1), .float 0, .float 0] [] (jm K3) (zk Q (fun v I1 => wz W 30 64 [.ref 3, .ref u, .ref (u + 13 + (s 5).toNat)] (v.toList ++ []) I1 Q)) := by
        intro Q
        rw [R2b, r3]
        simp only [zk_l, zk_r, Option.toList_some, Option.toList_none, List.cons_append, List.nil_append, zrokB, zrokB0, zrokB1, zrokJ0, zrokJ1, and_true, true_and, and_self, if_true, if_false, b2_0, b2_1, b2_not, ite_self]
        rw [sg_30_40 (hp1 := hu) (hqx2 := hqx), if_neg (by decide)]
        simp (disch := first | assumption | omega) only [w3, jm_n, jz_n, i_lit, i_c1, jrow_same, sset_eq]
        rfl
      obtain ⟨o4, J4, r4, f4, c4⟩ := sp_38s (W := W) (J := K3) (f := f) (n := n) (e := e3) (lo := a3) (hi := 20) htk3 pk3 (by omega) (by omega) (by omega) (by omega) (by omega) (by omega)
      have F4 : ∀ r, r ≠ 3 → r ≠ u + 13 + (s 5).toNat → J4 r = J r := fun r h1 h2 => by
        rw [f4 r h1]
        show jrow J3 (u + 13 + (s 5).toNat) _ r = _
        rw [jrow_ne h2, F3 r h1 h2]
      have Z4 : J4 (u + 13 + (s 5).toNat) 0 = J (u + 13 + (s 5).toNat) 0 := by
        rw [f4 _ (by omega)]
        show jrow J3 (u + 13 + (s 5).toNat) _ (u + 13 + (s 5).toNat) 0 = _
        rw [jrow_same, sset_ne (by decide), Z3]
      show ∃ o J', _ ∧ fU u J J' ∧ cSt f n u J' o (pB (pTe f n a3 20 e3) _)
      cases hq4 : pTe f n a3 20 e3 with
      | inl p =>
        rw [hq4] at c4
        obtain ⟨rfl, p3, p1⟩ := c4
        refine ⟨oI 0, J4, fun Q => ?_, fU_qq (by omega) (by omega) F4 Z4, ⟨rfl, p3, p1⟩⟩
        rw [R3b, r4]
        simp only [zk_l, zk_r, Option.toList_some, Option.toList_none, List.cons_append, List.nil_append, zrokB, zrokB0, zrokB1, zrokJ0, zrokJ1, and_true, true_and, and_self, if_true, if_false, b2_0, b2_1, b2_not, ite_self]
        rw [sg_30_64 (hp1 := hu) (hqx2 := hqx), if_pos (by decide)]
      | inr v =>
        obtain ⟨a4, e4⟩ := v
        have hb4 := pTe_e (by omega) hq4
        rw [hq4] at c4
        obtain ⟨rfl, pc4, w4⟩ := c4
        have ht4 : txt (J4 2) f n := by rw [F4 2 (by decide) (by omega)]; exact ht
        let K4 : zJ := jrow J4 (u + 13 + (s 5).toNat) (sset (J4 (u + 13 + (s 5).toNat)) 3 a4)
        have pk4 : PC f n K4 e4 := PC_r pc4 (jrow_ne (by omega))
        have htk4 : txt (K4 2) f n := by
          show txt (jrow J4 (u + 13 + (s 5).toNat) _ 2) f n
          rw [jrow_ne (by omega)]
          exact ht4
        have R4b : ∀ Q : zO → zI → Prop, wz W 30 0 [.ref 3, .ref u, .float 0] [] (jm J) Q = wz W 38 0 [.ref 3, .int (jI 1), .int (jI 60), .int (jI 0), .float 0, .float 0] [] (jm K4) (zk Q (fun v I1 => wz W 30 85 [.ref 3, .ref u, .ref (u + 13 + (s 5).toNat)] (v.toList ++ []) I1 Q)) := by
          intro Q
          rw [R3b, r4]
          simp only [zk_l, zk_r, Option.toList_some, Option.toList_none, List.cons_append, List.nil_append, zrokB, zrokB0, zrokB1, zrokJ0, zrokJ1, and_true, true_and, and_self, if_true, if_false, b2_0, b2_1, b2_not, ite_self]
          rw [sg_30_64 (hp1 := hu) (hqx2 := hqx), if_neg (by decide)]
          simp (disch := first | assumption | omega) only [w4, jm_n, jz_n, i_lit, i_c1, jrow_same, sset_eq]
          rfl
        obtain ⟨o5, J5, r5, f5, c5⟩ := sp_38u (W := W) (J := K4) (f := f) (n := n) (e := e4) (lo := 1) (hi := 60) htk4 pk4 (by omega) (by omega) (by omega) (by omega) (by omega) (by omega)
        have F5 : ∀ r, r ≠ 3 → r ≠ u + 13 + (s 5).toNat → J5 r = J r := fun r h1 h2 => by
          rw [f5 r h1]
          show jrow J4 (u + 13 + (s 5).toNat) _ r = _
          rw [jrow_ne h2, F4 r h1 h2]
        have Z5 : J5 (u + 13 + (s 5).toNat) 0 = J (u + 13 + (s 5).toNat) 0 := by
          rw [f5 _ (by omega)]
          show jrow J4 (u + 13 + (s 5).toNat) _ (u + 13 + (s 5).toNat) 0 = _
          rw [jrow_same, sset_ne (by decide), Z4]
        show ∃ o J', _ ∧ fU u J J' ∧ cSt f n u J' o (pB (pNu f n 1 60 e4) _)
        cases hq5 : pNu f n 1 60 e4 with
        | inl p =>
          rw [hq5] at c5
          obtain ⟨rfl, p3, p1⟩ := c5
          refine ⟨oI 0, J5, fun Q => ?_, fU_qq (by omega) (by omega) F5 Z5, ⟨rfl, p3, p1⟩⟩
          rw [R4b, r5]
          simp only [zk_l, zk_r, Option.toList_some, Option.toList_none, List.cons_append, List.nil_append, zrokB, zrokB0, zrokB1, zrokJ0, zrokJ1, and_true, true_and, and_self, if_true, if_false, b2_0, b2_1, b2_not, ite_self]
          rw [sg_30_85 (hp1 := hu) (hqx2 := hqx), if_pos (by decide)]
        | inr v =>
          obtain ⟨a5, e5⟩ := v
          have hb5 := pSg_e (by omega) hq5
          rw [hq5] at c5
          obtain ⟨rfl, pc5, w5⟩ := c5
          have ht5 : txt (J5 2) f n := by rw [F5 2 (by decide) (by omega)]; exact ht
          let K5 : zJ := jrow J5 (u + 13 + (s 5).toNat) (sset (J5 (u + 13 + (s 5).toNat)) 4 a5)
          have pk5 : PC f n K5 e5 := PC_r pc5 (jrow_ne (by omega))
          have htk5 : txt (K5 2) f n := by
            show txt (jrow J5 (u + 13 + (s 5).toNat) _ 2) f n
            rw [jrow_ne (by omega)]
            exact ht5
          have R5b : ∀ Q : zO → zI → Prop, wz W 30 0 [.ref 3, .ref u, .float 0] [] (jm J) Q = wz W 38 0 [.ref 3, .int (jI 0), .int (jI 9), .int (jI 0), .float 0, .float 0] [] (jm K5) (zk Q (fun v I1 => wz W 30 106 [.ref 3, .ref u, .ref (u + 13 + (s 5).toNat)] (v.toList ++ []) I1 Q)) := by
            intro Q
            rw [R4b, r5]
            simp only [zk_l, zk_r, Option.toList_some, Option.toList_none, List.cons_append, List.nil_append, zrokB, zrokB0, zrokB1, zrokJ0, zrokJ1, and_true, true_and, and_self, if_true, if_false, b2_0, b2_1, b2_not, ite_self]
            rw [sg_30_85 (hp1 := hu) (hqx2 := hqx), if_neg (by decide)]
            simp (disch := first | assumption | omega) only [w5, jm_n, jz_n, i_lit, i_c1, jrow_same, sset_eq]
            rfl
          obtain ⟨o6, J6, r6, f6, c6⟩ := sp_38u (W := W) (J := K5) (f := f) (n := n) (e := e5) (lo := 0) (hi := 9) htk5 pk5 (by omega) (by omega) (by omega) (by omega) (by omega) (by omega)
          have F6 : ∀ r, r ≠ 3 → r ≠ u + 13 + (s 5).toNat → J6 r = J r := fun r h1 h2 => by
            rw [f6 r h1]
            show jrow J5 (u + 13 + (s 5).toNat) _ r = _
            rw [jrow_ne h2, F5 r h1 h2]
          have Z6 : J6 (u + 13 + (s 5).toNat) 0 = J (u + 13 + (s 5).toNat) 0 := by
            rw [f6 _ (by omega)]
            show jrow J5 (u + 13 + (s 5).toNat) _ (u + 13 + (s 5).toNat) 0 = _
            rw [jrow_same, sset_ne (by decide), Z5]
          show ∃ o J', _ ∧ fU u J J' ∧ cSt f n u J' o (pB (pNu f n 0 9 e5) _)
          cases hq6 : pNu f n 0 9 e5 with
          | inl p =>
            rw [hq6] at c6
            obtain ⟨rfl, p3, p1⟩ := c6
            refine ⟨oI 0, J6, fun Q => ?_, fU_qq (by omega) (by omega) F6 Z6, ⟨rfl, p3, p1⟩⟩
            rw [R5b, r6]
            simp only [zk_l, zk_r, Option.toList_some, Option.toList_none, List.cons_append, List.nil_append, zrokB, zrokB0, zrokB1, zrokJ0, zrokJ1, and_true, true_and, and_self, if_true, if_false, b2_0, b2_1, b2_not, ite_self]
            rw [sg_30_106 (hp1 := hu) (hqx2 := hqx), if_pos (by decide)]
          | inr v =>
            obtain ⟨a6, e6⟩ := v
            have hb6 := pSg_e (by omega) hq6
            rw [hq6] at c6
            obtain ⟨rfl, pc6, w6⟩ := c6
            have ht6 : txt (J6 2) f n := by rw [F6 2 (by decide) (by omega)]; exact ht
            let K6 : zJ := jrow J6 (u + 13 + (s 5).toNat) (sset (J6 (u + 13 + (s 5).toNat)) 5 a6)
            have pk6 : PC f n K6 e6 := PC_r pc6 (jrow_ne (by omega))
            have htk6 : txt (K6 2) f n := by
              show txt (jrow J6 (u + 13 + (s 5).toNat) _ 2) f n
              rw [jrow_ne (by omega)]
              exact ht6
            have R6b : ∀ Q : zO → zI → Prop, wz W 30 0 [.ref 3, .ref u, .float 0] [] (jm J) Q = wz W 38 0 [.ref 3, .int (jI 0), .int (jI 9), .int (jI 0), .float 0, .float 0] [] (jm K6) (zk Q (fun v I1 => wz W 30 127 [.ref 3, .ref u, .ref (u + 13 + (s 5).toNat)] (v.toList ++ []) I1 Q)) := by
              intro Q
              rw [R5b, r6]
              simp only [zk_l, zk_r, Option.toList_some, Option.toList_none, List.cons_append, List.nil_append, zrokB, zrokB0, zrokB1, zrokJ0, zrokJ1, and_true, true_and, and_self, if_true, if_false, b2_0, b2_1, b2_not, ite_self]
              rw [sg_30_106 (hp1 := hu) (hqx2 := hqx), if_neg (by decide)]
              simp (disch := first | assumption | omega) only [w6, jm_n, jz_n, i_lit, i_c1, jrow_same, sset_eq]
              rfl
            obtain ⟨o7, J7, r7, f7, c7⟩ := sp_38u (W := W) (J := K6) (f := f) (n := n) (e := e6) (lo := 0) (hi := 9) htk6 pk6 (by omega) (by omega) (by omega) (by omega) (by omega) (by omega)
            have F7 : ∀ r, r ≠ 3 → r ≠ u + 13 + (s 5).toNat → J7 r = J r := fun r h1 h2 => by
              rw [f7 r h1]
              show jrow J6 (u + 13 + (s 5).toNat) _ r = _
              rw [jrow_ne h2, F6 r h1 h2]
            have Z7 : J7 (u + 13 + (s 5).toNat) 0 = J (u + 13 + (s 5).toNat) 0 := by
              rw [f7 _ (by omega)]
              show jrow J6 (u + 13 + (s 5).toNat) _ (u + 13 + (s 5).toNat) 0 = _
              rw [jrow_same, sset_ne (by decide), Z6]
            show ∃ o J', _ ∧ fU u J J' ∧ cSt f n u J' o (pB (pNu f n 0 9 e6) _)
            cases hq7 : pNu f n 0 9 e6 with
            | inl p =>
              rw [hq7] at c7
              obtain ⟨rfl, p3, p1⟩ := c7
              refine ⟨oI 0, J7, fun Q => ?_, fU_qq (by omega) (by omega) F7 Z7, ⟨rfl, p3, p1⟩⟩
              rw [R6b, r7]
              simp only [zk_l, zk_r, Option.toList_some, Option.toList_none, List.cons_append, List.nil_append, zrokB, zrokB0, zrokB1, zrokJ0, zrokJ1, and_true, true_and, and_self, if_true, if_false, b2_0, b2_1, b2_not, ite_self]
              rw [sg_30_127 (hp1 := hu) (hqx2 := hqx), if_pos (by decide)]
            | inr v =>
              obtain ⟨a7, e7⟩ := v
              have hb7 := pSg_e (by omega) hq7
              rw [hq7] at c7
              obtain ⟨rfl, pc7, w7⟩ := c7
              have ht7 : txt (J7 2) f n := by rw [F7 2 (by decide) (by omega)]; exact ht
              have g7 : ∀ j, j ≠ 6 → J7 (u + 13 + (s 5).toNat) j = sset (sset (sset (sset (sset (J (u + 13 + (s 5).toNat)) 1 a2) 2 a3) 3 a4) 4 a5) 5 a6 j := fun j hj => by
                rw [f7 _ (by omega)]
                show jrow J6 (u + 13 + (s 5).toNat) _ (u + 13 + (s 5).toNat) j = _
                rw [jrow_same, f6 _ (by omega)]
                show sset (jrow J5 (u + 13 + (s 5).toNat) _ (u + 13 + (s 5).toNat)) 5 a6 j = _
                rw [jrow_same, f5 _ (by omega)]
                show sset (sset (jrow J4 (u + 13 + (s 5).toNat) _ (u + 13 + (s 5).toNat)) 4 a5) 5 a6 j = _
                rw [jrow_same, f4 _ (by omega)]
                show sset (sset (sset (jrow J3 (u + 13 + (s 5).toNat) _ (u + 13 + (s 5).toNat)) 3 a4) 4 a5) 5 a6 j = _
                rw [jrow_same, f3 _ (by omega)]
                show sset (sset (sset (sset (jrow J2 (u + 13 + (s 5).toNat) _ (u + 13 + (s 5).toNat)) 2 a3) 3 a4) 4 a5) 5 a6 j = _
                rw [jrow_same, F2 _ (by omega), F1 _ (by omega)]
              have u7 : J7 u = J u := F7 u (by omega) (by omega)
              refine ⟨oI 1, jrow (jrow J7 (u + 13 + (s 5).toNat) (sset (J7 (u + 13 + (s 5).toNat)) 6 a7)) u (sset (J u) 0 (s 5 + 1)), fun Q => ?_, fU_t (fU_t (fU_qq (by omega) (by omega) F7 Z7) (fU_r (by omega) (by omega) (fun h1 h2 => sset_ne (by decide)))) (fU_r (Nat.le_refl _) (by omega) (fun h1 h2 => by omega)), ⟨rfl, PC_r pc7 (by rw [jrow_ne (by omega), jrow_ne (by omega)]), ?_⟩⟩
              · have u70 : J7 u 0 = s 5 := by rw [u7]; exact hR.1
                rw [R6b, r7]
                simp only [zk_l, zk_r, Option.toList_some, Option.toList_none, List.cons_append, List.nil_append, zrokB, zrokB0, zrokB1, zrokJ0, zrokJ1, and_true, true_and, and_self, if_true, if_false, b2_0, b2_1, b2_not, ite_self]
                rw [sg_30_127 (hp1 := hu) (hqx2 := hqx), if_neg (by decide)]
                simp (disch := first | assumption | omega) only [w7, jm_n, jz_n, i_lit, i_c0, jrow_ne, u70, jI_add, u7]
              · refine RP_Gd (J := J) hR hO h3 (fun r h1 h2 h4 h5 => by rw [jrow_ne h4, jrow_ne h5]; exact F7 r (by omega) h5) (by rw [jrow_same]) ?_ ?_ ?_ ?_ ?_ ?_ <;> rw [jrow_ne (by omega), jrow_same]
                · rw [sset_ne (by decide), g7 1 (by decide)]; rfl
                · rw [sset_ne (by decide), g7 2 (by decide)]; rfl
                · rw [sset_ne (by decide), g7 3 (by decide)]; rfl
                · rw [sset_ne (by decide), g7 4 (by decide)]; rfl
                · rw [sset_ne (by decide), g7 5 (by decide)]; rfl
                · rw [sset_eq rfl]
theorem sp_31 (hu : zStp u) (u5 : u = 5 ∨ u = 27) (ht : txt (J 2) f n) (hp : PC f n J e) (e0 : 0 ≤ e) (e1 : e ≤ n) (hR : RP J u s hl hq) (hO : okR s hl hq) (h3 : s 6 < 8) :
    ∃ o J', (∀ Q : zO → zI → Prop, wz W 31 0 [.ref 3, .ref u] [] (jm J) Q = Q o (jm J')) ∧ fU u J J' ∧ cSt f n u J' o (pPl f n s hl hq e) := by
  have hO' := hO
  obtain ⟨⟨hB, hC, hG, hOo⟩, hN, hL, hh⟩ := hO'
  obtain ⟨x1, x2, x3, x4, x5, x6, x7, x8, x9, x10, x11, x12⟩ := hB
  have hS := tqS_b (f := f) e1
  have hE := tqE_b (f := f) e1
  have ug : 5 ≤ u := by omega
  obtain ⟨J1, r1, pc1, v1, f1⟩ := sp_39e (W := W) (J := J) (f := f) (n := n) (e := tqE f n e) ht hp.1 hp.2.2.2 (by omega) (by omega)
  have F1 : ∀ r, r ≠ 3 → J1 r = J r := f1
  have ht1 : txt (J1 2) f n := by rw [F1 2 (by decide)]; exact ht
  have R1 : ∀ Q : zO → zI → Prop, wz W 31 0 [.ref 3, .ref u] [] (jm J) Q = wz W 31 4 [.ref 3, .ref u] [] (jm J1) Q := by
    intro Q
    rw [sg_31_0 (hp1 := hu), r1]
    simp only [zk_l, zk_r, Option.toList_some, Option.toList_none, List.cons_append, List.nil_append, zrokB, zrokB0, zrokB1, zrokJ0, zrokJ1, and_true, true_and, and_self, if_true, if_false, b2_0, b2_1, b2_not, ite_self]
  unfold pPl
  rw [if_neg (by omega)]
  obtain ⟨o2, J2, r2, f2, c2⟩ := sp_37 (W := W) (J := J1) (f := f) (n := n) (e := (tqE f n e)) hu ug ht1 pc1 (by omega) (by omega) (RP_fr hR x10 x8 (fun r a b => F1 r (by omega))) hO
  have F2 : ∀ r, r ≠ 3 → J2 r = J1 r := f2
  show ∃ o J', _ ∧ fU u J J' ∧ cSt f n u J' o (pB (pGn f n s (tqE f n e)) _)
  cases hq2 : pGn f n s (tqE f n e) with
  | inl p =>
    rw [hq2] at c2
    obtain ⟨rfl, p3, p1⟩ := c2
    refine ⟨oI 0, J2, fun Q => ?_, fU_3 ug (fun r hr => by rw [F2 r hr, F1 r hr]), ⟨rfl, p3, p1⟩⟩
    rw [R1, sg_31_4 (hp1 := hu)]
    skip
    rw [r2]
    simp only [zk_l, zk_r, Option.toList_some, Option.toList_none, List.cons_append, List.nil_append, zrokB, zrokB0, zrokB1, zrokJ0, zrokJ1, and_true, true_and, and_self, if_true, if_false, b2_0, b2_1, b2_not, ite_self]
    rw [sg_31_9 (hp1 := hu), if_pos (by decide)]
  | inr v =>
    obtain ⟨a2, e2⟩ := v
    have hb2 := pGn_e (by omega) hq2
    rw [hq2] at c2
    obtain ⟨rfl, pc2, w2⟩ := c2
    have ht2 : txt (J2 2) f n := by rw [F2 2 (by decide)]; exact ht1
    have R2 : ∀ Q : zO → zI → Prop, wz W 31 0 [.ref 3, .ref u] [] (jm J) Q = wz W 31 9 [.ref 3, .ref u] [.int (b2 true)] (jm J2) Q := by
      intro Q
      rw [R1, sg_31_4 (hp1 := hu)]
      skip
      rw [r2]
      simp only [zk_l, zk_r, Option.toList_some, Option.toList_none, List.cons_append, List.nil_append, zrokB, zrokB0, zrokB1, zrokJ0, zrokJ1, and_true, true_and, and_self, if_true, if_false, b2_0, b2_1, b2_not, ite_self]
    have fr2 : ∀ r, r ≠ 3 → J2 r = J r := fun r h1 => by rw [F2 r h1, F1 r h1]
    have u10 : J2 u 10 = s 6 := by rw [fr2 u (by omega)]; exact hR.2.2.2.1
    have h60 := hL.2.2.2.2.1
    refine ⟨oI 1, jrow (jrow J2 (u + 11 + 1) (sset (J2 (u + 11 + 1)) (J2 u 10) a2)) u (sset (J2 u) 10 (J2 u 10 + 1)), fun Q => ?_, fU_t (fU_t (fU_3 ug fr2) (fU_r (by omega) (by omega) (fun h1 h2 => by omega))) ⟨fun r h1 h2 => jrow_ne (by omega), fun g g0 g1 => by rw [jrow_ne (by omega)]⟩, ⟨rfl, PC_r pc2 (by rw [jrow_ne (by omega), jrow_ne (by omega)]), ?_⟩⟩
    · rw [R2, sg_31_9 (hp1 := hu), if_neg (by decide)]
      simp (disch := first | assumption | omega) only [w2, jm_n, i_lit]
      rw [sp_57 hu (by omega) (by omega)]
      simp only [zk_l, zk_r, Option.toList_some, Option.toList_none, List.cons_append, List.nil_append, zrokB, zrokB0, zrokB1, zrokJ0, zrokJ1, and_true, true_and, and_self, if_true, if_false, b2_0, b2_1, b2_not, ite_self]
      rw [sg_31_22 (hp1 := hu)]
    · exact RP_Pl (J := J2) (RP_fr hR x10 x8 (fun r a b => fr2 r (by omega))) hO h3 rfl
theorem sp_32 (hu : zStp u) (u5 : u = 5 ∨ u = 27) (ht : txt (J 2) f n) (hp : PC f n J e) (e0 : 0 ≤ e) (e1 : e ≤ n) (hR : RP J u s hl hq) (hO : okR s hl hq) (h3 : s 7 < 10) :
    ∃ o J', (∀ Q : zO → zI → Prop, wz W 32 0 [.ref 3, .ref u, .float 0, .float 0] [] (jm J) Q = Q o (jm J')) ∧ fU u J J' ∧ cSt f n u J' o (pOr f n s hl hq e) := by
  have hO' := hO
  obtain ⟨⟨hB, hC, hG, hOo⟩, hN, hL, hh⟩ := hO'
  obtain ⟨x1, x2, x3, x4, x5, x6, x7, x8, x9, x10, x11, x12⟩ := hB
  have hS := tqS_b (f := f) e1
  have hE := tqE_b (f := f) e1
  have ug : 5 ≤ u := by omega
  obtain ⟨J1, r1, pc1, v1, f1⟩ := sp_39e (W := W) (J := J) (f := f) (n := n) (e := tqE f n e) ht hp.1 hp.2.2.2 (by omega) (by omega)
  have F1 : ∀ r, r ≠ 3 → J1 r = J r := f1
  have ht1 : txt (J1 2) f n := by rw [F1 2 (by decide)]; exact ht
  have R1 : ∀ Q : zO → zI → Prop, wz W 32 0 [.ref 3, .ref u, .float 0, .float 0] [] (jm J) Q = wz W 32 4 [.ref 3, .ref u, .float 0, .float 0] [] (jm J1) Q := by
    intro Q
    rw [sg_32_0 (hp1 := hu), r1]
    simp only [zk_l, zk_r, Option.toList_some, Option.toList_none, List.cons_append, List.nil_append, zrokB, zrokB0, zrokB1, zrokJ0, zrokJ1, and_true, true_and, and_self, if_true, if_false, b2_0, b2_1, b2_not, ite_self]
  unfold pOr
  rw [if_neg (by omega)]
  obtain ⟨o2, J2, r2, f2, c2⟩ := sp_37 (W := W) (J := J1) (f := f) (n := n) (e := (tqE f n e)) hu ug ht1 pc1 (by omega) (by omega) (RP_fr hR x10 x8 (fun r a b => F1 r (by omega))) hO
  have F2 : ∀ r, r ≠ 3 → J2 r = J1 r := f2
  show ∃ o J', _ ∧ fU u J J' ∧ cSt f n u J' o (pB (pGn f n s (tqE f n e)) _)
  cases hq2 : pGn f n s (tqE f n e) with
  | inl p =>
    rw [hq2] at c2
    obtain ⟨rfl, p3, p1⟩ := c2
    refine ⟨oI 0, J2, fun Q => ?_, fU_3 ug (fun r hr => by rw [F2 r hr, F1 r hr]), ⟨rfl, p3, p1⟩⟩
    rw [R1, sg_32_4 (hp1 := hu)]
    skip
    rw [r2]
    simp only [zk_l, zk_r, Option.toList_some, Option.toList_none, List.cons_append, List.nil_append, zrokB, zrokB0, zrokB1, zrokJ0, zrokJ1, and_true, true_and, and_self, if_true, if_false, b2_0, b2_1, b2_not, ite_self]
    rw [sg_32_9 (hp1 := hu), if_pos (by decide)]
  | inr v =>
    obtain ⟨a2, e2⟩ := v
    have hb2 := pGn_e (by omega) hq2
    rw [hq2] at c2
    obtain ⟨rfl, pc2, w2⟩ := c2
    have ht2 : txt (J2 2) f n := by rw [F2 2 (by decide)]; exact ht1
    have R2 : ∀ Q : zO → zI → Prop, wz W 32 0 [.ref 3, .ref u, .float 0, .float 0] [] (jm J) Q = wz W 32 9 [.ref 3, .ref u, .float 0, .float 0] [.int (b2 true)] (jm J2) Q := by
      intro Q
      rw [R1, sg_32_4 (hp1 := hu)]
      skip
      rw [r2]
      simp only [zk_l, zk_r, Option.toList_some, Option.toList_none, List.cons_append, List.nil_append, zrokB, zrokB0, zrokB1, zrokJ0, zrokJ1, and_true, true_and, and_self, if_true, if_false, b2_0, b2_1, b2_not, ite_self]
    obtain ⟨o3, J3, r3, f3, c3⟩ := sp_38u (W := W) (J := J2) (f := f) (n := n) (e := e2) (lo := 1) (hi := 9) ht2 pc2 (by omega) (by omega) (by omega) (by omega) (by omega) (by omega)
    have F3 : ∀ r, r ≠ 3 → J3 r = J2 r := f3
    show ∃ o J', _ ∧ fU u J J' ∧ cSt f n u J' o (pB (pNu f n 1 9 e2) _)
    cases hq3 : pNu f n 1 9 e2 with
    | inl p =>
      rw [hq3] at c3
      obtain ⟨rfl, p3, p1⟩ := c3
      refine ⟨oI 0, J3, fun Q => ?_, fU_3 ug (fun r hr => by rw [F3 r hr, F2 r hr, F1 r hr]), ⟨rfl, p3, p1⟩⟩
      rw [R2, sg_32_9 (hp1 := hu), if_neg (by decide)]
      simp (disch := first | assumption | omega) only [w2, jm_n, i_lit]
      rw [r3]
      simp only [zk_l, zk_r, Option.toList_some, Option.toList_none, List.cons_append, List.nil_append, zrokB, zrokB0, zrokB1, zrokJ0, zrokJ1, and_true, true_and, and_self, if_true, if_false, b2_0, b2_1, b2_not, ite_self]
      rw [sg_32_27 (hp1 := hu), if_pos (by decide)]
    | inr v =>
      obtain ⟨a3, e3⟩ := v
      have hb3 := pSg_e (by omega) hq3
      rw [hq3] at c3
      obtain ⟨rfl, pc3, w3⟩ := c3
      have ht3 : txt (J3 2) f n := by rw [F3 2 (by decide)]; exact ht2
      have R3 : ∀ Q : zO → zI → Prop, wz W 32 0 [.ref 3, .ref u, .float 0, .float 0] [] (jm J) Q = wz W 32 27 [.ref 3, .ref u, .int (jI a2), .float 0] [.int (b2 true)] (jm J3) Q := by
        intro Q
        rw [R2, sg_32_9 (hp1 := hu), if_neg (by decide)]
        simp (disch := first | assumption | omega) only [w2, jm_n, i_lit]
        rw [r3]
        simp only [zk_l, zk_r, Option.toList_some, Option.toList_none, List.cons_append, List.nil_append, zrokB, zrokB0, zrokB1, zrokJ0, zrokJ1, and_true, true_and, and_self, if_true, if_false, b2_0, b2_1, b2_not, ite_self]
      obtain ⟨o4, J4, r4, f4, c4⟩ := sp_38u (W := W) (J := J3) (f := f) (n := n) (e := e3) (lo := 0) (hi := 365) ht3 pc3 (by omega) (by omega) (by omega) (by omega) (by omega) (by omega)
      have F4 : ∀ r, r ≠ 3 → J4 r = J3 r := f4
      show ∃ o J', _ ∧ fU u J J' ∧ cSt f n u J' o (pB (pNu f n 0 365 e3) _)
      cases hq4 : pNu f n 0 365 e3 with
      | inl p =>
        rw [hq4] at c4
        obtain ⟨rfl, p3, p1⟩ := c4
        refine ⟨oI 0, J4, fun Q => ?_, fU_3 ug (fun r hr => by rw [F4 r hr, F3 r hr, F2 r hr, F1 r hr]), ⟨rfl, p3, p1⟩⟩
        rw [R3, sg_32_27 (hp1 := hu), if_neg (by decide)]
        simp (disch := first | assumption | omega) only [w3, jm_n, i_lit]
        rw [r4]
        simp only [zk_l, zk_r, Option.toList_some, Option.toList_none, List.cons_append, List.nil_append, zrokB, zrokB0, zrokB1, zrokJ0, zrokJ1, and_true, true_and, and_self, if_true, if_false, b2_0, b2_1, b2_not, ite_self]
        rw [sg_32_46 (hp1 := hu), if_pos (by decide)]
      | inr v =>
        obtain ⟨a4, e4⟩ := v
        have hb4 := pSg_e (by omega) hq4
        rw [hq4] at c4
        obtain ⟨rfl, pc4, w4⟩ := c4
        have ht4 : txt (J4 2) f n := by rw [F4 2 (by decide)]; exact ht3
        have R4 : ∀ Q : zO → zI → Prop, wz W 32 0 [.ref 3, .ref u, .float 0, .float 0] [] (jm J) Q = wz W 32 46 [.ref 3, .ref u, .int (jI a2), .int (jI a3)] [.int (b2 true)] (jm J4) Q := by
          intro Q
          rw [R3, sg_32_27 (hp1 := hu), if_neg (by decide)]
          simp (disch := first | assumption | omega) only [w3, jm_n, i_lit]
          rw [r4]
          simp only [zk_l, zk_r, Option.toList_some, Option.toList_none, List.cons_append, List.nil_append, zrokB, zrokB0, zrokB1, zrokJ0, zrokJ1, and_true, true_and, and_self, if_true, if_false, b2_0, b2_1, b2_not, ite_self]
        have fr4 : ∀ r, r ≠ 3 → J4 r = J r := fun r h1 => by rw [F4 r h1, F3 r h1, F2 r h1, F1 r h1]
        have u6 : J4 u 6 = s 7 := by rw [fr4 u (by omega)]; exact hR.2.2.1
        refine ⟨oI 1, jrow (jrow (jrow (jrow J4 (u + 5 + 1) (sset (J4 (u + 5 + 1)) (J4 u 6) a2)) (u + 7 + 1) (sset (J4 (u + 7 + 1)) (J4 u 6) a3)) (u + 9 + 1) (sset (J4 (u + 9 + 1)) (J4 u 6) a4)) u (sset (J4 u) 6 (J4 u 6 + 1)), fun Q => ?_, fU_t (fU_3 ug fr4) ⟨fun r h1 h2 => by rw [jrow_ne (by omega), jrow_ne (by omega), jrow_ne (by omega), jrow_ne (by omega)], fun g g0 g1 => by rw [jrow_ne (by omega), jrow_ne (by omega), jrow_ne (by omega), jrow_ne (by omega)]⟩, ⟨rfl, PC_r pc4 (by rw [jrow_ne (by omega), jrow_ne (by omega), jrow_ne (by omega), jrow_ne (by omega)]), ?_⟩⟩
        · rw [R4, sg_32_46 (hp1 := hu), if_neg (by decide)]
          simp (disch := first | assumption | omega) only [w4, jm_n, i_lit]
          rw [sp_56 hu (by omega) (by omega)]
          simp only [zk_l, zk_r, Option.toList_some, Option.toList_none, List.cons_append, List.nil_append, zrokB, zrokB0, zrokB1, zrokJ0, zrokJ1, and_true, true_and, and_self, if_true, if_false, b2_0, b2_1, b2_not, ite_self]
          rw [sg_32_61 (hp1 := hu)]
        · exact RP_Or (J := J4) (RP_fr hR x10 x8 (fun r a b => fr4 r (by omega))) hO h3 rfl
theorem sp_33 (hu : zStp u) (u5 : u = 5 ∨ u = 27) (ht : txt (J 2) f n) (hp : PC f n J e) (e0 : 0 ≤ e) (e1 : e ≤ n) (hR : RP J u s hl hq) (hO : okR s hl hq) (h3 : hl = 0) :
    ∃ o J', (∀ Q : zO → zI → Prop, wz W 33 0 [.ref 3, .ref u] [] (jm J) Q = Q o (jm J')) ∧ fU u J J' ∧ cSt f n u J' o (pLi f n s hl hq e) := by
  have hO' := hO
  obtain ⟨⟨hB, hC, hG, hOo⟩, hN, hL, hh⟩ := hO'
  obtain ⟨x1, x2, x3, x4, x5, x6, x7, x8, x9, x10, x11, x12⟩ := hB
  have hS := tqS_b (f := f) e1
  have hE := tqE_b (f := f) e1
  have ug : 5 ≤ u := by omega
  obtain ⟨J1, r1, pc1, v1, f1⟩ := sp_39e (W := W) (J := J) (f := f) (n := n) (e := tqE f n e) ht hp.1 hp.2.2.2 (by omega) (by omega)
  have F1 : ∀ r, r ≠ 3 → J1 r = J r := f1
  have ht1 : txt (J1 2) f n := by rw [F1 2 (by decide)]; exact ht
  have R1 : ∀ Q : zO → zI → Prop, wz W 33 0 [.ref 3, .ref u] [] (jm J) Q = wz W 33 4 [.ref 3, .ref u] [] (jm J1) Q := by
    intro Q
    rw [sg_33_0 (hp1 := hu), r1]
    simp only [zk_l, zk_r, Option.toList_some, Option.toList_none, List.cons_append, List.nil_append, zrokB, zrokB0, zrokB1, zrokJ0, zrokJ1, and_true, true_and, and_self, if_true, if_false, b2_0, b2_1, b2_not, ite_self]
  unfold pLi
  rw [if_neg (by omega)]
  obtain ⟨o2, J2, r2, f2, c2⟩ := sp_38u (W := W) (J := J1) (f := f) (n := n) (e := (tqE f n e)) (lo := 0) (hi := 999) ht1 pc1 (by omega) (by omega) (by omega) (by omega) (by omega) (by omega)
  have F2 : ∀ r, r ≠ 3 → J2 r = J1 r := f2
  show ∃ o J', _ ∧ fU u J J' ∧ cSt f n u J' o (pB (pNu f n 0 999 (tqE f n e)) _)
  cases hq2 : pNu f n 0 999 (tqE f n e) with
  | inl p =>
    rw [hq2] at c2
    obtain ⟨rfl, p3, p1⟩ := c2
    refine ⟨oI 0, J2, fun Q => ?_, fU_3 ug (fun r hr => by rw [F2 r hr, F1 r hr]), ⟨rfl, p3, p1⟩⟩
    rw [R1, sg_33_4 (hp1 := hu)]
    skip
    rw [r2]
    simp only [zk_l, zk_r, Option.toList_some, Option.toList_none, List.cons_append, List.nil_append, zrokB, zrokB0, zrokB1, zrokJ0, zrokJ1, and_true, true_and, and_self, if_true, if_false, b2_0, b2_1, b2_not, ite_self]
    rw [sg_33_13 (hp1 := hu), if_pos (by decide)]
  | inr v =>
    obtain ⟨a2, e2⟩ := v
    have hb2 := pSg_e (by omega) hq2
    rw [hq2] at c2
    obtain ⟨rfl, pc2, w2⟩ := c2
    have ht2 : txt (J2 2) f n := by rw [F2 2 (by decide)]; exact ht1
    have R2 : ∀ Q : zO → zI → Prop, wz W 33 0 [.ref 3, .ref u] [] (jm J) Q = wz W 33 13 [.ref 3, .ref u] [.int (b2 true)] (jm J2) Q := by
      intro Q
      rw [R1, sg_33_4 (hp1 := hu)]
      skip
      rw [r2]
      simp only [zk_l, zk_r, Option.toList_some, Option.toList_none, List.cons_append, List.nil_append, zrokB, zrokB0, zrokB1, zrokJ0, zrokJ1, and_true, true_and, and_self, if_true, if_false, b2_0, b2_1, b2_not, ite_self]
    let K2 : zJ := jrow J2 u (sset (J2 u) 12 a2)
    have pk2 : PC f n K2 e2 := PC_r pc2 (jrow_ne (by omega))
    have htk2 : txt (K2 2) f n := by
      show txt (jrow J2 u _ 2) f n
      rw [jrow_ne (by omega)]
      exact ht2
    have R2b : ∀ Q : zO → zI → Prop, wz W 33 0 [.ref 3, .ref u] [] (jm J) Q = wz W 38 0 [.ref 3, .int (jI 0), .int (jI 999), .int (jI 0), .float 0, .float 0] [] (jm K2) (zk Q (fun v I1 => wz W 33 35 [.ref 3, .ref u] (v.toList ++ []) I1 Q)) := by
      intro Q
      rw [R2, sg_33_13 (hp1 := hu), if_neg (by decide)]
      simp (disch := first | assumption | omega) only [w2, jm_n, jz_n, i_lit]
      rfl
    obtain ⟨o3, J3, r3, f3, c3⟩ := sp_38u (W := W) (J := K2) (f := f) (n := n) (e := e2) (lo := 0) (hi := 999) htk2 pk2 (by omega) (by omega) (by omega) (by omega) (by omega) (by omega)
    have F3 : ∀ r, r ≠ 3 → r ≠ u → J3 r = J r := fun r h1 h2 => by
      rw [f3 r h1]
      show jrow J2 u _ r = _
      rw [jrow_ne h2, F2 r h1, F1 r h1]
    show ∃ o J', _ ∧ fU u J J' ∧ cSt f n u J' o (pB (pNu f n 0 999 e2) _)
    cases hq3 : pNu f n 0 999 e2 with
    | inl p =>
      rw [hq3] at c3
      obtain ⟨rfl, p3, p1⟩ := c3
      refine ⟨oI 0, J3, fun Q => ?_, ⟨fun r h1 h2 => F3 r h1 (by omega), fun g g0 g1 => by rw [F3 _ (by omega) (by omega)]⟩, ⟨rfl, p3, p1⟩⟩
      rw [R2b, r3]
      simp only [zk_l, zk_r, Option.toList_some, Option.toList_none, List.cons_append, List.nil_append, zrokB, zrokB0, zrokB1, zrokJ0, zrokJ1, and_true, true_and, and_self, if_true, if_false, b2_0, b2_1, b2_not, ite_self]
      rw [sg_33_35 (hp1 := hu), if_pos (by decide)]
    | inr v =>
      obtain ⟨a3, e3⟩ := v
      have hb3 := pSg_e (by omega) hq3
      rw [hq3] at c3
      obtain ⟨rfl, pc3, w3⟩ := c3
      have u3 : J3 u = sset (J u) 12 a2 := by
        rw [f3 u (by omega)]
        show jrow J2 u _ u = _
        rw [jrow_same, F2 u (by omega), F1 u (by omega)]
      refine ⟨oI 1, jrow J3 u (sset (sset (J3 u) 13 a3) 15 1), fun Q => ?_, ⟨fun r h1 h2 => by rw [jrow_ne (by omega)]; exact F3 r h1 (by omega), fun g g0 g1 => by rw [jrow_ne (by omega), F3 _ (by omega) (by omega)]⟩, ⟨rfl, PC_r pc3 (jrow_ne (by omega)), ?_⟩⟩
      · rw [R2b, r3]
        simp only [zk_l, zk_r, Option.toList_some, Option.toList_none, List.cons_append, List.nil_append, zrokB, zrokB0, zrokB1, zrokJ0, zrokJ1, and_true, true_and, and_self, if_true, if_false, b2_0, b2_1, b2_not, ite_self]
        rw [sg_33_35 (hp1 := hu), if_neg (by decide)]
        simp (disch := first | assumption | omega) only [w3, jm_n, jz_n, i_lit, jrow_same, jrow_jrow]
      · obtain ⟨q1, q2, q3, q4, q5, q6, q7, q8, q9, -⟩ := id hR
        refine RP_lo (J := J) hR x10 x8 (fun j hj => by show sset (sset s 1 a2) 2 a3 j = s j; rw [sset_ne (by omega), sset_ne (by omega)]) (fun q h1 h2 h4 => by rw [jrow_ne h4]; exact F3 q (by omega) h4) (fun j hj => by rw [jrow_same, sset_ne (by omega), sset_ne (by omega), u3, sset_ne (by omega)]) ?_ ?_ ?_ ?_ ?_ <;> rw [jrow_same, u3]
        · rfl
        · rfl
        · exact q7
        · rfl
        · exact q9
theorem sp_34 (hu : zStp u) (u5 : u = 5 ∨ u = 27) (ht : txt (J 2) f n) (hp : PC f n J e) (e0 : 0 ≤ e) (e1 : e ≤ n) (hR : RP J u s hl hq) (hO : okR s hl hq) (h3 : hq = 0) :
    ∃ o J', (∀ Q : zO → zI → Prop, wz W 34 0 [.ref 3, .ref u] [] (jm J) Q = Q o (jm J')) ∧ fU u J J' ∧ cSt f n u J' o (pQu f n s hl hq e) := by
  have hO' := hO
  obtain ⟨⟨hB, hC, hG, hOo⟩, hN, hL, hh⟩ := hO'
  obtain ⟨x1, x2, x3, x4, x5, x6, x7, x8, x9, x10, x11, x12⟩ := hB
  have hS := tqS_b (f := f) e1
  have hE := tqE_b (f := f) e1
  have ug : 5 ≤ u := by omega
  obtain ⟨J1, r1, pc1, v1, f1⟩ := sp_39e (W := W) (J := J) (f := f) (n := n) (e := tqE f n e) ht hp.1 hp.2.2.2 (by omega) (by omega)
  have F1 : ∀ r, r ≠ 3 → J1 r = J r := f1
  have ht1 : txt (J1 2) f n := by rw [F1 2 (by decide)]; exact ht
  have R1 : ∀ Q : zO → zI → Prop, wz W 34 0 [.ref 3, .ref u] [] (jm J) Q = wz W 34 4 [.ref 3, .ref u] [] (jm J1) Q := by
    intro Q
    rw [sg_34_0 (hp1 := hu), r1]
    simp only [zk_l, zk_r, Option.toList_some, Option.toList_none, List.cons_append, List.nil_append, zrokB, zrokB0, zrokB1, zrokJ0, zrokJ1, and_true, true_and, and_self, if_true, if_false, b2_0, b2_1, b2_not, ite_self]
  unfold pQu
  rw [if_neg (by omega)]
  obtain ⟨o2, J2, r2, f2, c2⟩ := sp_38s (W := W) (J := J1) (f := f) (n := n) (e := (tqE f n e)) (lo := (-30)) (hi := 40) ht1 pc1 (by omega) (by omega) (by omega) (by omega) (by omega) (by omega)
  have F2 : ∀ r, r ≠ 3 → J2 r = J1 r := f2
  show ∃ o J', _ ∧ fU u J J' ∧ cSt f n u J' o (pB (pTe f n (-30) 40 (tqE f n e)) _)
  cases hq2 : pTe f n (-30) 40 (tqE f n e) with
  | inl p =>
    rw [hq2] at c2
    obtain ⟨rfl, p3, p1⟩ := c2
    refine ⟨oI 0, J2, fun Q => ?_, fU_3 ug (fun r hr => by rw [F2 r hr, F1 r hr]), ⟨rfl, p3, p1⟩⟩
    rw [R1, sg_34_4 (hp1 := hu)]
    skip
    rw [r2]
    simp only [zk_l, zk_r, Option.toList_some, Option.toList_none, List.cons_append, List.nil_append, zrokB, zrokB0, zrokB1, zrokJ0, zrokJ1, and_true, true_and, and_self, if_true, if_false, b2_0, b2_1, b2_not, ite_self]
    rw [sg_34_13 (hp1 := hu), if_pos (by decide)]
  | inr v =>
    obtain ⟨a2, e2⟩ := v
    have hb2 := pTe_e (by omega) hq2
    rw [hq2] at c2
    obtain ⟨rfl, pc2, w2⟩ := c2
    have ht2 : txt (J2 2) f n := by rw [F2 2 (by decide)]; exact ht1
    have R2 : ∀ Q : zO → zI → Prop, wz W 34 0 [.ref 3, .ref u] [] (jm J) Q = wz W 34 13 [.ref 3, .ref u] [.int (b2 true)] (jm J2) Q := by
      intro Q
      rw [R1, sg_34_4 (hp1 := hu)]
      skip
      rw [r2]
      simp only [zk_l, zk_r, Option.toList_some, Option.toList_none, List.cons_append, List.nil_append, zrokB, zrokB0, zrokB1, zrokJ0, zrokJ1, and_true, true_and, and_self, if_true, if_false, b2_0, b2_1, b2_not, ite_self]
    have fr2 : ∀ r, r ≠ 3 → J2 r = J r := fun r h1 => by rw [F2 r h1, F1 r h1]
    refine ⟨oI 1, jrow J2 u (sset (sset (J2 u) 14 a2) 16 1), fun Q => ?_, fU_t (fU_3 ug fr2) (fU_r (Nat.le_refl _) (by omega) (fun h1 h2 => by omega)), ⟨rfl, PC_r pc2 (jrow_ne (by omega)), ?_⟩⟩
    · rw [R2, sg_34_13 (hp1 := hu), if_neg (by decide)]
      simp (disch := first | assumption | omega) only [w2, jm_n, jz_n, i_lit, jrow_same, jrow_jrow]
    · obtain ⟨q1, q2, q3, q4, q5, q6, q7, q8, q9, -⟩ := id hR
      refine RP_lo (J := J) hR x10 x8 (fun j hj => by show sset s 3 a2 j = s j; rw [sset_ne (by omega)]) (fun q h1 h2 h4 => by rw [jrow_ne h4]; exact fr2 q (by omega)) (fun j hj => by rw [jrow_same, sset_ne (by omega), sset_ne (by omega), fr2 u (by omega)]) ?_ ?_ ?_ ?_ ?_ <;> rw [jrow_same, fr2 u (by omega)]
      · exact q5
      · exact q6
      · rfl
      · exact q8
      · rfl
/-- statement -/
theorem sp_27 (hu : zStp u) (u5 : u = 5 ∨ u = 27) (ht : txt (J 2) f n) (hp : PC f n J e) (e0 : 0 ≤ e) (e1 : e ≤ n) (hR : RP J u s hl hq) (hO : okR s hl hq) :
    ∃ o J', (∀ Q : zO → zI → Prop, wz W 27 0 [.ref 3, .ref u] [] (jm J) Q = Q o (jm J')) ∧ fU u J J' ∧ cSt f n u J' o (pSm f n s hl hq e) := by
  have hO' := hO
  obtain ⟨⟨hB, hC, hG, hOo⟩, hN, hL, hh⟩ := hO'
  obtain ⟨x1, x2, x3, x4, x5, x6, x7, x8, x9, x10, x11, x12⟩ := hB
  obtain ⟨q1, q2, q3, q4, q5, q6, q7, q8, q9, -⟩ := id hR
  have h6a := hL.2.2.2.2.1
  have h6b := hL.2.2.2.2.2.1
  have hw := fun (i : Nat) (hi : i < 7) (Q : zO → zI → Prop) => sp_42 (W := W) (Q := Q) (J := J) hi ht hp e0 e1
  have hbad : ∀ o : zO, o = oI 0 → cSt f n u J o (.inl (tqS f n e)) := fun o h => by
    rw [h]
    exact ⟨rfl, hp.2.2.1, hp.1⟩
  have hfr : fU u J J := ⟨fun r _ _ => rfl, fun g _ _ => rfl⟩
  have cst_o : ∀ (o : zO) (J' : zJ) (r : Int ⊕ (pSt × Int)), cSt f n u J' o r → o = oB true ∨ o = oB false := fun o J' r h => by
    cases r with
    | inl p => exact Or.inr h.1
    | inr v => exact Or.inl h.1
  unfold pSm
  have T0 : ∀ Q : zO → zI → Prop, wz W 27 0 [.ref 3, .ref u] [] (jm J) Q = wz W 27 6 [.ref 3, .ref u] [.int (b2 (tqW f n e 0))] (jm J) Q := by
    intro Q
    rw [sg_27_0 (hp1 := hu), hw 0 (by decide)]
    simp only [zk_l, zk_r, Option.toList_some, Option.toList_none, List.cons_append, List.nil_append, zrokB, zrokB0, zrokB1, zrokJ0, zrokJ1, and_true, true_and, and_self, if_true, if_false, b2_0, b2_1, b2_not, ite_self]
  cases w0 : tqW f n e 0 with
  | true =>
    rw [w0] at T0
    rw [if_pos rfl]
    by_cases hm : s 4 = 3
    · refine ⟨oI 0, J, fun Q => ?_, hfr, ?_⟩
      · rw [T0, sg_27_6 (hp1 := hu), if_neg (by decide), show jm J u 3 = jI (J u 3) from rfl, q2, if_pos (by rw [jI_le (by omega) (by omega) (by omega) (by omega)]; omega), sg_27_29 (hp1 := hu), sg_27_30 (hp1 := hu)]
        simp only [zk_l, zk_r, Option.toList_some, Option.toList_none, List.cons_append, List.nil_append, zrokB, zrokB0, zrokB1, zrokJ0, zrokJ1, and_true, true_and, and_self, if_true, if_false, b2_0, b2_1, b2_not, ite_self]
      · unfold pCh
        rw [if_pos hm]
        exact hbad _ rfl
    · obtain ⟨o, J', hr, hf, hc⟩ := sp_28 (W := W) hu u5 ht hp e0 e1 hR hO (by omega)
      refine ⟨o, J', fun Q => ?_, hf, hc⟩
      rw [T0, sg_27_6 (hp1 := hu), if_neg (by decide), show jm J u 3 = jI (J u 3) from rfl, q2, if_neg (by rw [jI_le (by omega) (by omega) (by omega) (by omega)]; omega), hr]
      rcases cst_o o J' _ hc with rfl | rfl
      · simp only [zk_l, zk_r, Option.toList_some, Option.toList_none, List.cons_append, List.nil_append, zrokB, zrokB0, zrokB1, zrokJ0, zrokJ1, and_true, true_and, and_self, if_true, if_false, b2_0, b2_1, b2_not, ite_self]
        rw [sg_27_22 (hp1 := hu), if_neg (by decide), sg_27_30 (hp1 := hu)]
        simp only [zk_l, zk_r, Option.toList_some, Option.toList_none, List.cons_append, List.nil_append, zrokB, zrokB0, zrokB1, zrokJ0, zrokJ1, and_true, true_and, and_self, if_true, if_false, b2_0, b2_1, b2_not, ite_self]
        rfl
      · simp only [zk_l, zk_r, Option.toList_some, Option.toList_none, List.cons_append, List.nil_append, zrokB, zrokB0, zrokB1, zrokJ0, zrokJ1, and_true, true_and, and_self, if_true, if_false, b2_0, b2_1, b2_not, ite_self]
        rw [sg_27_22 (hp1 := hu), if_pos (by decide), sg_27_29 (hp1 := hu), sg_27_30 (hp1 := hu)]
        simp only [zk_l, zk_r, Option.toList_some, Option.toList_none, List.cons_append, List.nil_append, zrokB, zrokB0, zrokB1, zrokJ0, zrokJ1, and_true, true_and, and_self, if_true, if_false, b2_0, b2_1, b2_not, ite_self]
        rfl
  | false =>
    rw [w0] at T0
    rw [if_neg (by decide)]
    have T1 : ∀ Q : zO → zI → Prop, wz W 27 0 [.ref 3, .ref u] [] (jm J) Q = wz W 27 37 [.ref 3, .ref u] [.int (b2 (tqW f n e 1))] (jm J) Q := by
      intro Q
      rw [T0, sg_27_6 (hp1 := hu), if_pos (by decide), hw 1 (by decide)]
      simp only [zk_l, zk_r, Option.toList_some, Option.toList_none, List.cons_append, List.nil_append, zrokB, zrokB0, zrokB1, zrokJ0, zrokJ1, and_true, true_and, and_self, if_true, if_false, b2_0, b2_1, b2_not, ite_self]
    cases w1 : tqW f n e 1 with
    | true =>
      rw [w1] at T1
      rw [if_pos rfl]
      obtain ⟨o, J', hr, hf, hc⟩ := sp_29 (W := W) hu u5 ht hp e0 e1 hR hO
      refine ⟨o, J', fun Q => ?_, hf, hc⟩
      rw [T1, sg_27_37 (hp1 := hu), if_neg (by decide), hr]
      rcases cst_o o J' _ hc with rfl | rfl
      · simp only [zk_l, zk_r, Option.toList_some, Option.toList_none, List.cons_append, List.nil_append, zrokB, zrokB0, zrokB1, zrokJ0, zrokJ1, and_true, true_and, and_self, if_true, if_false, b2_0, b2_1, b2_not, ite_self]
        rw [sg_27_45 (hp1 := hu)]
        simp only [zk_l, zk_r, Option.toList_some, Option.toList_none, List.cons_append, List.nil_append, zrokB, zrokB0, zrokB1, zrokJ0, zrokJ1, and_true, true_and, and_self, if_true, if_false, b2_0, b2_1, b2_not, ite_self]
      · simp only [zk_l, zk_r, Option.toList_some, Option.toList_none, List.cons_append, List.nil_append, zrokB, zrokB0, zrokB1, zrokJ0, zrokJ1, and_true, true_and, and_self, if_true, if_false, b2_0, b2_1, b2_not, ite_self]
        rw [sg_27_45 (hp1 := hu)]
        simp only [zk_l, zk_r, Option.toList_some, Option.toList_none, List.cons_append, List.nil_append, zrokB, zrokB0, zrokB1, zrokJ0, zrokJ1, and_true, true_and, and_self, if_true, if_false, b2_0, b2_1, b2_not, ite_self]
    | false =>
      rw [w1] at T1
      rw [if_neg (by decide)]
      have T2 : ∀ Q : zO → zI → Prop, wz W 27 0 [.ref 3, .ref u] [] (jm J) Q = wz W 27 52 [.ref 3, .ref u] [.int (b2 (tqW f n e 2))] (jm J) Q := by
        intro Q
        rw [T1, sg_27_37 (hp1 := hu), if_pos (by decide), hw 2 (by decide)]
        simp only [zk_l, zk_r, Option.toList_some, Option.toList_none, List.cons_append, List.nil_append, zrokB, zrokB0, zrokB1, zrokJ0, zrokJ1, and_true, true_and, and_self, if_true, if_false, b2_0, b2_1, b2_not, ite_self]
      cases w2 : tqW f n e 2 with
      | true =>
        rw [w2] at T2
        rw [if_pos rfl]
        by_cases hm : s 5 = 6
        · refine ⟨oI 0, J, fun Q => ?_, hfr, ?_⟩
          · rw [T2, sg_27_52 (hp1 := hu), if_neg (by decide), show jm J u 0 = jI (J u 0) from rfl, q1, if_pos (by rw [jI_le (by omega) (by omega) (by omega) (by omega)]; omega), sg_27_76 (hp1 := hu), sg_27_77 (hp1 := hu)]
            simp only [zk_l, zk_r, Option.toList_some, Option.toList_none, List.cons_append, List.nil_append, zrokB, zrokB0, zrokB1, zrokJ0, zrokJ1, and_true, true_and, and_self, if_true, if_false, b2_0, b2_1, b2_not, ite_self]
          · unfold pGd
            rw [if_pos hm]
            exact hbad _ rfl
        · obtain ⟨o, J', hr, hf, hc⟩ := sp_30 (W := W) hu u5 ht hp e0 e1 hR hO (by omega)
          refine ⟨o, J', fun Q => ?_, hf, hc⟩
          rw [T2, sg_27_52 (hp1 := hu), if_neg (by decide), show jm J u 0 = jI (J u 0) from rfl, q1, if_neg (by rw [jI_le (by omega) (by omega) (by omega) (by omega)]; omega), hr]
          rcases cst_o o J' _ hc with rfl | rfl
          · simp only [zk_l, zk_r, Option.toList_some, Option.toList_none, List.cons_append, List.nil_append, zrokB, zrokB0, zrokB1, zrokJ0, zrokJ1, and_true, true_and, and_self, if_true, if_false, b2_0, b2_1, b2_not, ite_self]
            rw [sg_27_69 (hp1 := hu), if_neg (by decide), sg_27_77 (hp1 := hu)]
            simp only [zk_l, zk_r, Option.toList_some, Option.toList_none, List.cons_append, List.nil_append, zrokB, zrokB0, zrokB1, zrokJ0, zrokJ1, and_true, true_and, and_self, if_true, if_false, b2_0, b2_1, b2_not, ite_self]
            rfl
          · simp only [zk_l, zk_r, Option.toList_some, Option.toList_none, List.cons_append, List.nil_append, zrokB, zrokB0, zrokB1, zrokJ0, zrokJ1, and_true, true_and, and_self, if_true, if_false, b2_0, b2_1, b2_not, ite_self]
            rw [sg_27_69 (hp1 := hu), if_pos (by decide), sg_27_76 (hp1 := hu), sg_27_77 (hp1 := hu)]
            simp only [zk_l, zk_r, Option.toList_some, Option.toList_none, List.cons_append, List.nil_append, zrokB, zrokB0, zrokB1, zrokJ0, zrokJ1, and_true, true_and, and_self, if_true, if_false, b2_0, b2_1, b2_not, ite_self]
            rfl
      | false =>
        rw [w2] at T2
        rw [if_neg (by decide)]
        have T3 : ∀ Q : zO → zI → Prop, wz W 27 0 [.ref 3, .ref u] [] (jm J) Q = wz W 27 84 [.ref 3, .ref u] [.int (b2 (tqW f n e 3))] (jm J) Q := by
          intro Q
          rw [T2, sg_27_52 (hp1 := hu), if_pos (by decide), hw 3 (by decide)]
          simp only [zk_l, zk_r, Option.toList_some, Option.toList_none, List.cons_append, List.nil_append, zrokB, zrokB0, zrokB1, zrokJ0, zrokJ1, and_true, true_and, and_self, if_true, if_false, b2_0, b2_1, b2_not, ite_self]
        cases w3 : tqW f n e 3 with
        | true =>
          rw [w3] at T3
          rw [if_pos rfl]
          by_cases hm : s 6 = 8
          · refine ⟨oI 0, J, fun Q => ?_, hfr, ?_⟩
            · rw [T3, sg_27_84 (hp1 := hu), if_neg (by decide), show jm J u 10 = jI (J u 10) from rfl, q4, if_pos (by rw [jI_le (by omega) (by omega) (by omega) (by omega)]; omega), sg_27_108 (hp1 := hu), sg_27_109 (hp1 := hu)]
              simp only [zk_l, zk_r, Option.toList_some, Option.toList_none, List.cons_append, List.nil_append, zrokB, zrokB0, zrokB1, zrokJ0, zrokJ1, and_true, true_and, and_self, if_true, if_false, b2_0, b2_1, b2_not, ite_self]
            · unfold pPl
              rw [if_pos hm]
              exact hbad _ rfl
          · obtain ⟨o, J', hr, hf, hc⟩ := sp_31 (W := W) hu u5 ht hp e0 e1 hR hO (by omega)
            refine ⟨o, J', fun Q => ?_, hf, hc⟩
            rw [T3, sg_27_84 (hp1 := hu), if_neg (by decide), show jm J u 10 = jI (J u 10) from rfl, q4, if_neg (by rw [jI_le (by omega) (by omega) (by omega) (by omega)]; omega), hr]
            rcases cst_o o J' _ hc with rfl | rfl
            · simp only [zk_l, zk_r, Option.toList_some, Option.toList_none, List.cons_append, List.nil_append, zrokB, zrokB0, zrokB1, zrokJ0, zrokJ1, and_true, true_and, and_self, if_true, if_false, b2_0, b2_1, b2_not, ite_self]
              rw [sg_27_101 (hp1 := hu), if_neg (by decide), sg_27_109 (hp1 := hu)]
              simp only [zk_l, zk_r, Option.toList_some, Option.toList_none, List.cons_append, List.nil_append, zrokB, zrokB0, zrokB1, zrokJ0, zrokJ1, and_true, true_and, and_self, if_true, if_false, b2_0, b2_1, b2_not, ite_self]
              rfl
            · simp only [zk_l, zk_r, Option.toList_some, Option.toList_none, List.cons_append, List.nil_append, zrokB, zrokB0, zrokB1, zrokJ0, zrokJ1, and_true, true_and, and_self, if_true, if_false, b2_0, b2_1, b2_not, ite_self]
              rw [sg_27_101 (hp1 := hu), if_pos (by decide), sg_27_108 (hp1 := hu), sg_27_109 (hp1 := hu)]
              simp only [zk_l, zk_r, Option.toList_some, Option.toList_none, List.cons_append, List.nil_append, zrokB, zrokB0, zrokB1, zrokJ0, zrokJ1, and_true, true_and, and_self, if_true, if_false, b2_0, b2_1, b2_not, ite_self]
              rfl
        | false =>
          rw [w3] at T3
          rw [if_neg (by decide)]
          have T4 : ∀ Q : zO → zI → Prop, wz W 27 0 [.ref 3, .ref u] [] (jm J) Q = wz W 27 116 [.ref 3, .ref u] [.int (b2 (tqW f n e 4))] (jm J) Q := by
            intro Q
            rw [T3, sg_27_84 (hp1 := hu), if_pos (by decide), hw 4 (by decide)]
            simp only [zk_l, zk_r, Option.toList_some, Option.toList_none, List.cons_append, List.nil_append, zrokB, zrokB0, zrokB1, zrokJ0, zrokJ1, and_true, true_and, and_self, if_true, if_false, b2_0, b2_1, b2_not, ite_self]
          cases w4 : tqW f n e 4 with
          | true =>
            rw [w4] at T4
            rw [if_pos rfl]
            by_cases hm : s 7 = 10
            · refine ⟨oI 0, J, fun Q => ?_, hfr, ?_⟩
              · rw [T4, sg_27_116 (hp1 := hu), if_neg (by decide), show jm J u 6 = jI (J u 6) from rfl, q3, if_pos (by rw [jI_le (by omega) (by omega) (by omega) (by omega)]; omega), sg_27_140 (hp1 := hu), sg_27_141 (hp1 := hu)]
                simp only [zk_l, zk_r, Option.toList_some, Option.toList_none, List.cons_append, List.nil_append, zrokB, zrokB0, zrokB1, zrokJ0, zrokJ1, and_true, true_and, and_self, if_true, if_false, b2_0, b2_1, b2_not, ite_self]
              · unfold pOr
                rw [if_pos hm]
                exact hbad _ rfl
            · obtain ⟨o, J', hr, hf, hc⟩ := sp_32 (W := W) hu u5 ht hp e0 e1 hR hO (by omega)
              refine ⟨o, J', fun Q => ?_, hf, hc⟩
              rw [T4, sg_27_116 (hp1 := hu), if_neg (by decide), show jm J u 6 = jI (J u 6) from rfl, q3, if_neg (by rw [jI_le (by omega) (by omega) (by omega) (by omega)]; omega), hr]
              rcases cst_o o J' _ hc with rfl | rfl
              · simp only [zk_l, zk_r, Option.toList_some, Option.toList_none, List.cons_append, List.nil_append, zrokB, zrokB0, zrokB1, zrokJ0, zrokJ1, and_true, true_and, and_self, if_true, if_false, b2_0, b2_1, b2_not, ite_self]
                rw [sg_27_133 (hp1 := hu), if_neg (by decide), sg_27_141 (hp1 := hu)]
                simp only [zk_l, zk_r, Option.toList_some, Option.toList_none, List.cons_append, List.nil_append, zrokB, zrokB0, zrokB1, zrokJ0, zrokJ1, and_true, true_and, and_self, if_true, if_false, b2_0, b2_1, b2_not, ite_self]
                rfl
              · simp only [zk_l, zk_r, Option.toList_some, Option.toList_none, List.cons_append, List.nil_append, zrokB, zrokB0, zrokB1, zrokJ0, zrokJ1, and_true, true_and, and_self, if_true, if_false, b2_0, b2_1, b2_not, ite_self]
                rw [sg_27_133 (hp1 := hu), if_pos (by decide), sg_27_140 (hp1 := hu), sg_27_141 (hp1 := hu)]
                simp only [zk_l, zk_r, Option.toList_some, Option.toList_none, List.cons_append, List.nil_append, zrokB, zrokB0, zrokB1, zrokJ0, zrokJ1, and_true, true_and, and_self, if_true, if_false, b2_0, b2_1, b2_not, ite_self]
                rfl
          | false =>
            rw [w4] at T4
            rw [if_neg (by decide)]
            have T5 : ∀ Q : zO → zI → Prop, wz W 27 0 [.ref 3, .ref u] [] (jm J) Q = wz W 27 148 [.ref 3, .ref u] [.int (b2 (tqW f n e 5))] (jm J) Q := by
              intro Q
              rw [T4, sg_27_116 (hp1 := hu), if_pos (by decide), hw 5 (by decide)]
              simp only [zk_l, zk_r, Option.toList_some, Option.toList_none, List.cons_append, List.nil_append, zrokB, zrokB0, zrokB1, zrokJ0, zrokJ1, and_true, true_and, and_self, if_true, if_false, b2_0, b2_1, b2_not, ite_self]
            cases w5 : tqW f n e 5 with
            | true =>
              rw [w5] at T5
              rw [if_pos rfl]
              by_cases hm : hl = 1
              · refine ⟨oI 0, J, fun Q => ?_, hfr, ?_⟩
                · rw [T5, sg_27_148 (hp1 := hu), if_neg (by decide), show jm J u 15 = jI (J u 15) from rfl, q8, if_neg (by rw [jI_eq0 (by omega) (by omega)]; omega), sg_27_170 (hp1 := hu), sg_27_171 (hp1 := hu)]
                  simp only [zk_l, zk_r, Option.toList_some, Option.toList_none, List.cons_append, List.nil_append, zrokB, zrokB0, zrokB1, zrokJ0, zrokJ1, and_true, true_and, and_self, if_true, if_false, b2_0, b2_1, b2_not, ite_self]
                · unfold pLi
                  rw [if_pos hm]
                  exact hbad _ rfl
              · obtain ⟨o, J', hr, hf, hc⟩ := sp_33 (W := W) hu u5 ht hp e0 e1 hR hO (by omega)
                refine ⟨o, J', fun Q => ?_, hf, hc⟩
                rw [T5, sg_27_148 (hp1 := hu), if_neg (by decide), show jm J u 15 = jI (J u 15) from rfl, q8, if_pos (by rw [jI_eq0 (by omega) (by omega)]; omega), hr]
                rcases cst_o o J' _ hc with rfl | rfl
                · simp only [zk_l, zk_r, Option.toList_some, Option.toList_none, List.cons_append, List.nil_append, zrokB, zrokB0, zrokB1, zrokJ0, zrokJ1, and_true, true_and, and_self, if_true, if_false, b2_0, b2_1, b2_not, ite_self]
                  rw [sg_27_163 (hp1 := hu), if_neg (by decide), sg_27_171 (hp1 := hu)]
                  simp only [zk_l, zk_r, Option.toList_some, Option.toList_none, List.cons_append, List.nil_append, zrokB, zrokB0, zrokB1, zrokJ0, zrokJ1, and_true, true_and, and_self, if_true, if_false, b2_0, b2_1, b2_not, ite_self]
                  rfl
                · simp only [zk_l, zk_r, Option.toList_some, Option.toList_none, List.cons_append, List.nil_append, zrokB, zrokB0, zrokB1, zrokJ0, zrokJ1, and_true, true_and, and_self, if_true, if_false, b2_0, b2_1, b2_not, ite_self]
                  rw [sg_27_163 (hp1 := hu), if_pos (by decide), sg_27_170 (hp1 := hu), sg_27_171 (hp1 := hu)]
                  simp only [zk_l, zk_r, Option.toList_some, Option.toList_none, List.cons_append, List.nil_append, zrokB, zrokB0, zrokB1, zrokJ0, zrokJ1, and_true, true_and, and_self, if_true, if_false, b2_0, b2_1, b2_not, ite_self]
                  rfl
            | false =>
              rw [w5] at T5
              rw [if_neg (by decide)]
              have T6 : ∀ Q : zO → zI → Prop, wz W 27 0 [.ref 3, .ref u] [] (jm J) Q = wz W 27 178 [.ref 3, .ref u] [.int (b2 (tqW f n e 6))] (jm J) Q := by
                intro Q
                rw [T5, sg_27_148 (hp1 := hu), if_pos (by decide), hw 6 (by decide)]
                simp only [zk_l, zk_r, Option.toList_some, Option.toList_none, List.cons_append, List.nil_append, zrokB, zrokB0, zrokB1, zrokJ0, zrokJ1, and_true, true_and, and_self, if_true, if_false, b2_0, b2_1, b2_not, ite_self]
              cases w6 : tqW f n e 6 with
              | true =>
                rw [w6] at T6
                rw [if_pos rfl]
                by_cases hm : hq = 1
                · refine ⟨oI 0, J, fun Q => ?_, hfr, ?_⟩
                  · rw [T6, sg_27_178 (hp1 := hu), if_neg (by decide), show jm J u 16 = jI (J u 16) from rfl, q9, if_neg (by rw [jI_eq0 (by omega) (by omega)]; omega), sg_27_200 (hp1 := hu), sg_27_201 (hp1 := hu)]
                    simp only [zk_l, zk_r, Option.toList_some, Option.toList_none, List.cons_append, List.nil_append, zrokB, zrokB0, zrokB1, zrokJ0, zrokJ1, and_true, true_and, and_self, if_true, if_false, b2_0, b2_1, b2_not, ite_self]
                  · unfold pQu
                    rw [if_pos hm]
                    exact hbad _ rfl
                · obtain ⟨o, J', hr, hf, hc⟩ := sp_34 (W := W) hu u5 ht hp e0 e1 hR hO (by omega)
                  refine ⟨o, J', fun Q => ?_, hf, hc⟩
                  rw [T6, sg_27_178 (hp1 := hu), if_neg (by decide), show jm J u 16 = jI (J u 16) from rfl, q9, if_pos (by rw [jI_eq0 (by omega) (by omega)]; omega), hr]
                  rcases cst_o o J' _ hc with rfl | rfl
                  · simp only [zk_l, zk_r, Option.toList_some, Option.toList_none, List.cons_append, List.nil_append, zrokB, zrokB0, zrokB1, zrokJ0, zrokJ1, and_true, true_and, and_self, if_true, if_false, b2_0, b2_1, b2_not, ite_self]
                    rw [sg_27_193 (hp1 := hu), if_neg (by decide), sg_27_201 (hp1 := hu)]
                    simp only [zk_l, zk_r, Option.toList_some, Option.toList_none, List.cons_append, List.nil_append, zrokB, zrokB0, zrokB1, zrokJ0, zrokJ1, and_true, true_and, and_self, if_true, if_false, b2_0, b2_1, b2_not, ite_self]
                    rfl
                  · simp only [zk_l, zk_r, Option.toList_some, Option.toList_none, List.cons_append, List.nil_append, zrokB, zrokB0, zrokB1, zrokJ0, zrokJ1, and_true, true_and, and_self, if_true, if_false, b2_0, b2_1, b2_not, ite_self]
                    rw [sg_27_193 (hp1 := hu), if_pos (by decide), sg_27_200 (hp1 := hu), sg_27_201 (hp1 := hu)]
                    simp only [zk_l, zk_r, Option.toList_some, Option.toList_none, List.cons_append, List.nil_append, zrokB, zrokB0, zrokB1, zrokJ0, zrokJ1, and_true, true_and, and_self, if_true, if_false, b2_0, b2_1, b2_not, ite_self]
                    rfl
              | false =>
                rw [w6] at T6
                rw [if_neg (by decide)]
                refine ⟨oI 0, J, fun Q => ?_, hfr, hbad _ rfl⟩
                rw [T6, sg_27_178 (hp1 := hu), if_pos (by decide), sg_27_200 (hp1 := hu), sg_27_201 (hp1 := hu)]
                simp only [zk_l, zk_r, Option.toList_some, Option.toList_none, List.cons_append, List.nil_append, zrokB, zrokB0, zrokB1, zrokJ0, zrokJ1, and_true, true_and, and_self, if_true, if_false, b2_0, b2_1, b2_not, ite_self]
end
