/-! ===== the class: firstError ===== -/
section
variable {f : Int → Int} {n : Int} {s : Int → Int} {hl hq e : Int}
theorem pSm_p {s' : Int → Int} {hl' hq' e' : Int} (hO : okR s hl hq) (e0 : 0 ≤ e) (e1 : e ≤ n) (h : pSm f n s hl hq e = .inr ((s', hl', hq'), e')) : e ≤ e' ∧ e' ≤ n ∧ okR s' hl' hq' := by
  have hO' := hO
  obtain ⟨⟨hB, hC, hG, hOo⟩, hN, hL, hh⟩ := hO'
  obtain ⟨x1, x2, x3, x4, x5, x6, x7, x8, x9, x10, x11, x12⟩ := hB
  have hS := tqS_b (f := f) e1
  have hE := tqE_b (f := f) e1
  unfold pSm at h
  split at h
  · unfold pCh at h
    split at h
    · cases h
    · cases q2 : pNm f n s (tqE f n e) with
      | inl p => rw [q2] at h; cases h
      | inr v =>
        obtain ⟨a2, e2⟩ := v
        have b2' := pNm_e (by omega) q2
        rw [q2] at h
        replace h : pB (pNu f n 1 6 e2) _ = _ := h
        cases q3 : pNu f n 1 6 e2 with
        | inl p => rw [q3] at h; cases h
        | inr v =>
          obtain ⟨a3, e3⟩ := v
          have b3 := pSg_e (by omega) q3
          rw [q3] at h
          replace h : pB (pNu f n 1 4 e3) _ = _ := h
          cases q4 : pNu f n 1 4 e3 with
          | inl p => rw [q4] at h; cases h
          | inr v =>
            obtain ⟨a4, e4⟩ := v
            have b4 := pSg_e (by omega) q4
            rw [q4] at h
            replace h : pB (pTe f n (-30) 20 e4) _ = _ := h
            cases q5 : pTe f n (-30) 20 e4 with
            | inl p => rw [q5] at h; cases h
            | inr v =>
              obtain ⟨a5, e5⟩ := v
              have b5 := pTe_e (by omega) q5
              rw [q5] at h
              cases h
              exact ⟨by omega, by omega, okR_Ch hO (by omega) (by omega) (by omega) (by omega) (by omega) (by omega) (by omega) (by omega) (by omega) b2'.2.2.2.2⟩
  · split at h
    · unfold pDr at h
      cases q2 : pCn f n s (tqE f n e) with
      | inl p => rw [q2] at h; cases h
      | inr v =>
        obtain ⟨a2, e2⟩ := v
        have b2' := pCn_e (by omega) q2
        rw [q2] at h
        replace h : pB (pNu f n 0 (s (12 + 8 * a2 + 1) - 1) e2) _ = _ := h
        cases q3 : pNu f n 0 (s (12 + 8 * a2 + 1) - 1) e2 with
        | inl p => rw [q3] at h; cases h
        | inr v =>
          obtain ⟨a3, e3⟩ := v
          have b3 := pSg_e (by omega) q3
          rw [q3] at h
          replace h : pB (pNu f n 0 (s (12 + 8 * a2 + 2) - 1) e3) _ = _ := h
          cases q4 : pNu f n 0 (s (12 + 8 * a2 + 2) - 1) e3 with
          | inl p => rw [q4] at h; cases h
          | inr v =>
            obtain ⟨a4, e4⟩ := v
            have b4 := pSg_e (by omega) q4
            rw [q4] at h
            cases h
            exact ⟨by omega, by omega, okR_Dr hO (by omega) (by omega) (by omega) (by omega) (by omega) (by omega)⟩
    · split at h
      · unfold pGd at h
        split at h
        · cases h
        · cases q2 : pNm f n s (tqE f n e) with
          | inl p => rw [q2] at h; cases h
          | inr v =>
            obtain ⟨a2, e2⟩ := v
            have b2' := pNm_e (by omega) q2
            rw [q2] at h
            replace h : pB (pTe f n (-30) 20 e2) _ = _ := h
            cases q3 : pTe f n (-30) 20 e2 with
            | inl p => rw [q3] at h; cases h
            | inr v =>
              obtain ⟨a3, e3⟩ := v
              have b3 := pTe_e (by omega) q3
              rw [q3] at h
              replace h : pB (pTe f n a3 20 e3) _ = _ := h
              cases q4 : pTe f n a3 20 e3 with
              | inl p => rw [q4] at h; cases h
              | inr v =>
                obtain ⟨a4, e4⟩ := v
                have b4 := pTe_e (by omega) q4
                rw [q4] at h
                replace h : pB (pNu f n 1 60 e4) _ = _ := h
                cases q5 : pNu f n 1 60 e4 with
                | inl p => rw [q5] at h; cases h
                | inr v =>
                  obtain ⟨a5, e5⟩ := v
                  have b5 := pSg_e (by omega) q5
                  rw [q5] at h
                  replace h : pB (pNu f n 0 9 e5) _ = _ := h
                  cases q6 : pNu f n 0 9 e5 with
                  | inl p => rw [q6] at h; cases h
                  | inr v =>
                    obtain ⟨a6, e6⟩ := v
                    have b6 := pSg_e (by omega) q6
                    rw [q6] at h
                    replace h : pB (pNu f n 0 9 e6) _ = _ := h
                    cases q7 : pNu f n 0 9 e6 with
                    | inl p => rw [q7] at h; cases h
                    | inr v =>
                      obtain ⟨a7, e7⟩ := v
                      have b7 := pSg_e (by omega) q7
                      rw [q7] at h
                      cases h
                      exact ⟨by omega, by omega, okR_Gd hO (by omega) (by omega) (by omega) (by omega) (by omega) (by omega) (by omega) (by omega) (by omega) (by omega) (by omega) (by omega) b2'.2.2.2.2⟩
      · split at h
        · unfold pPl at h
          split at h
          · cases h
          · cases q2 : pGn f n s (tqE f n e) with
            | inl p => rw [q2] at h; cases h
            | inr v =>
              obtain ⟨a2, e2⟩ := v
              have b2' := pGn_e (by omega) q2
              rw [q2] at h
              have h6 := hL.2.2.2.2.2.1
              cases h
              exact ⟨by omega, by omega, okR_Pl hO (by omega) (by omega) (by omega)⟩
        · split at h
          · unfold pOr at h
            split at h
            · cases h
            · cases q2 : pGn f n s (tqE f n e) with
              | inl p => rw [q2] at h; cases h
              | inr v =>
                obtain ⟨a2, e2⟩ := v
                have b2' := pGn_e (by omega) q2
                rw [q2] at h
                replace h : pB (pNu f n 1 9 e2) _ = _ := h
                cases q3 : pNu f n 1 9 e2 with
                | inl p => rw [q3] at h; cases h
                | inr v =>
                  obtain ⟨a3, e3⟩ := v
                  have b3 := pSg_e (by omega) q3
                  rw [q3] at h
                  replace h : pB (pNu f n 0 365 e3) _ = _ := h
                  cases q4 : pNu f n 0 365 e3 with
                  | inl p => rw [q4] at h; cases h
                  | inr v =>
                    obtain ⟨a4, e4⟩ := v
                    have b4 := pSg_e (by omega) q4
                    rw [q4] at h
                    cases h
                    exact ⟨by omega, by omega, okR_Or hO (by omega) (by omega) (by omega) (by omega) (by omega) (by omega) (by omega)⟩
          · split at h
            · unfold pLi at h
              split at h
              · cases h
              · cases q2 : pNu f n 0 999 (tqE f n e) with
                | inl p => rw [q2] at h; cases h
                | inr v =>
                  obtain ⟨a2, e2⟩ := v
                  have b2' := pSg_e (by omega) q2
                  rw [q2] at h
                  replace h : pB (pNu f n 0 999 e2) _ = _ := h
                  cases q3 : pNu f n 0 999 e2 with
                  | inl p => rw [q3] at h; cases h
                  | inr v =>
                    obtain ⟨a3, e3⟩ := v
                    have b3 := pSg_e (by omega) q3
                    rw [q3] at h
                    cases h
                    exact ⟨by omega, by omega, okR_lo hO (fun j hj => by rw [sset_ne (by omega), sset_ne (by omega)]) (by rw [sset_ne (by decide), sset_eq rfl]; omega) (by rw [sset_eq rfl]; omega) (by rw [sset_ne (by decide), sset_ne (by decide)]; omega) ⟨Or.inr rfl, hh.2⟩⟩
            · split at h
              · unfold pQu at h
                split at h
                · cases h
                · cases q2 : pTe f n (-30) 40 (tqE f n e) with
                  | inl p => rw [q2] at h; cases h
                  | inr v =>
                    obtain ⟨a2, e2⟩ := v
                    have b2' := pTe_e (by omega) q2
                    rw [q2] at h
                    cases h
                    exact ⟨by omega, by omega, okR_lo hO (fun j hj => by rw [sset_ne (by omega)]) (by rw [sset_ne (by decide)]; omega) (by rw [sset_ne (by decide)]; omega) (by rw [sset_eq rfl]; omega) ⟨hh.1, Or.inr rfl⟩⟩
              · cases h
end
/-- what the reading of a whole text ends in, in the class -/
def cRn (u : Nat) (J' : zJ) (o : zO) (r : Int ⊕ pSt) : Prop := match r with
  | .inl p => o = oI p
  | .inr s => o = oI (-1) ∧ RP J' u s.1 s.2.1 s.2.2
section
variable {W : zW} {J : zJ} {Q : zO → zI → Prop} {f : Int → Int} {n : Int} {u : Nat}
theorem sp_26 (hu : zStp u) (u5 : u = 5 ∨ u = 27) (n0 : 0 ≤ n) (n9 : n ≤ 900) (ht : txt (J 2) f n) :
    ∃ o J', (∀ Q : zO → zI → Prop, wz W 26 0 [.ref 3, .int (jI n), .ref u, .float 0] [] (jm J) Q = Q o (jm J')) ∧ fU u J J' ∧ cRn u J' o (pRn f n (n.toNat + 1) (s000 (J 356)) 0 0 0) := by
  have ug : 5 ≤ u := by omega
  -- the loop, k statements having been read
  have main : ∀ (d k : Nat) (J1 : zJ) (s : Int → Int) (hl hq e : Int), d + k = n.toNat + 1 → (k : Int) ≤ e → e ≤ n → txt (J1 2) f n → J1 3 1 = n → J1 3 4 = e → RP J1 u s hl hq → okR s hl hq →
      ∃ o J', (∀ Q : zO → zI → Prop, wz W 26 16 [.ref 3, .int (jI n), .ref u, .int (jI (k : Int))] [] (jm J1) Q = Q o (jm J')) ∧ fU u J1 J' ∧ cRn u J' o (pRn f n d s hl hq e) := by
    intro d
    induction d with
    | zero => intro k J1 s hl hq e hk ke en; omega
    | succ d ih =>
      intro k J1 s hl hq e hk ke en ht1 h1 h4 hR hO
      have hO' := hO
      obtain ⟨⟨hB, -⟩, -⟩ := hO'
      obtain ⟨x1, x2, x3, x4, x5, x6, x7, x8, x9, x10, x11, x12⟩ := hB
      obtain ⟨J2, r2, pc2, v2, f2⟩ := sp_39e (W := W) (J := J1) (f := f) (n := n) (e := e) ht1 h1 h4 (by omega) en
      have ht2 : txt (J2 2) f n := by rw [f2 2 (by decide)]; exact ht1
      obtain ⟨o3, J3, r3, f3, c3⟩ := sp_27 (W := W) (J := J2) hu u5 ht2 pc2 (by omega) en (RP_fr hR x10 x8 (fun r a b => f2 r (by omega))) hO
      have R3 : ∀ Q : zO → zI → Prop, wz W 26 16 [.ref 3, .int (jI n), .ref u, .int (jI (k : Int))] [] (jm J1) Q = zk Q (fun v I1 => wz W 26 30 [.ref 3, .int (jI n), .ref u, .int (jI (k : Int))] (v.toList ++ []) I1 Q) o3 (jm J3) := by
        intro Q
        rw [sg_26_16 (hp2 := hu), if_neg (by rw [jI_lt (by omega) (by omega) (by omega) (by omega)]; omega), r2]
        simp only [zk_l, zk_r, Option.toList_some, Option.toList_none, List.cons_append, List.nil_append, zrokB, zrokB0, zrokB1, zrokJ0, zrokJ1, and_true, true_and, and_self, if_true, if_false, b2_0, b2_1, b2_not, ite_self]
        rw [sg_26_25 (hp2 := hu), r3]
      have F3 : fU u J1 J3 := fU_t (fU_3 ug f2) f3
      show ∃ o J', _ ∧ _ ∧ cRn u J' o (match pSm f n s hl hq e with
        | .inl p => .inl p
        | .inr ((s', hl', hq'), e') => if tqK f n e' = 0 then .inr (s', hl', hq') else if tqG f n e' 59 = true then pRn f n d s' hl' hq' (tqE f n e') else .inl (tqS f n e'))
      cases hs : pSm f n s hl hq e with
      | inl p =>
        rw [hs] at c3
        obtain ⟨rfl, p3, p1⟩ := c3
        refine ⟨oI p, J3, fun Q => ?_, F3, rfl⟩
        rw [R3]
        simp only [zk_l, zk_r, Option.toList_some, Option.toList_none, List.cons_append, List.nil_append, zrokB, zrokB0, zrokB1, zrokJ0, zrokJ1, and_true, true_and, and_self, if_true, if_false, b2_0, b2_1, b2_not, ite_self]
        rw [sg_26_30 (hp2 := hu), if_pos (by decide)]
        simp (disch := first | assumption | omega) only [p3, jm_n, i_lit]
      | inr v =>
        obtain ⟨⟨s', hl', hq'⟩, e'⟩ := v
        obtain ⟨b1, b3, b4⟩ := pSm_p hO (by omega) en hs
        rw [hs] at c3
        obtain ⟨rfl, pc3, rp3⟩ := c3
        replace rp3 : RP J3 u s' hl' hq' := rp3
        have hK' := tqK_b f n e'
        have hS' := tqS_b (f := f) b3
        have hE' := tqE_b (f := f) b3
        have k3 : jm J3 3 2 = jI (tqK f n e') := by
          show jI (J3 3 2) = _
          rw [pc3.2.1]
        have s3 : jm J3 3 3 = jI (tqS f n e') := by
          show jI (J3 3 3) = _
          rw [pc3.2.2.1]
        have ht3 : txt (J3 2) f n := by rw [F3.1 2 (by decide) (by omega)]; exact ht1
        have R4 : ∀ Q : zO → zI → Prop, wz W 26 16 [.ref 3, .int (jI n), .ref u, .int (jI (k : Int))] [] (jm J1) Q = (if tqK f n e' = 0 then Q (oI (-1)) (jm J3) else wz W 26 53 [.ref 3, .int (jI n), .ref u, .int (jI (k : Int))] [.int (b2 (tqG f n e' 59))] (jm J3) Q) := by
          intro Q
          rw [R3]
          simp only [zk_l, zk_r, Option.toList_some, Option.toList_none, List.cons_append, List.nil_append, zrokB, zrokB0, zrokB1, zrokJ0, zrokJ1, and_true, true_and, and_self, if_true, if_false, b2_0, b2_1, b2_not, ite_self]
          rw [sg_26_30 (hp2 := hu), if_neg (by decide), k3, ifE0 (by omega) (by omega)]
          by_cases c : tqK f n e' = 0
          · rw [if_pos c, if_pos c]
          · rw [if_neg c, if_neg c, sp_41 ht3 pc3 (by omega) b3 (by decide) (by decide)]
            simp only [zk_l, zk_r, Option.toList_some, Option.toList_none, List.cons_append, List.nil_append, zrokB, zrokB0, zrokB1, zrokJ0, zrokJ1, and_true, true_and, and_self, if_true, if_false, b2_0, b2_1, b2_not, ite_self]
        by_cases c : tqK f n e' = 0
        · refine ⟨oI (-1), J3, fun Q => ?_, F3, ?_⟩
          · rw [R4, if_pos c]
          · show cRn u J3 (oI (-1)) (if tqK f n e' = 0 then .inr (s', hl', hq') else _)
            rw [if_pos c]
            exact ⟨rfl, rp3⟩
        · show ∃ o J', _ ∧ _ ∧ cRn u J' o (if tqK f n e' = 0 then .inr (s', hl', hq') else if tqG f n e' 59 = true then pRn f n d s' hl' hq' (tqE f n e') else .inl (tqS f n e'))
          rw [if_neg c]
          cases hg : tqG f n e' 59 with
          | false =>
            refine ⟨oI (tqS f n e'), J3, fun Q => ?_, F3, ?_⟩
            · rw [R4, if_neg c, hg, sg_26_53 (hp2 := hu), if_pos (by decide), s3]
            · rw [if_neg (by decide)]
              rfl
          | true =>
            have h3 : tqK f n e' = 3 := by
              unfold tqG at hg
              rw [Bool.and_eq_true, decide_eq_true_eq] at hg
              exact hg.1
            have hE3 := tqE_3 h3
            obtain ⟨o, J', r, fr, cc⟩ := ih (k + 1) J3 s' hl' hq' (tqE f n e') (by omega) (by omega) (by omega) ht3 pc3.1 pc3.2.2.2 rp3 b4
            refine ⟨o, J', fun Q => ?_, fU_t F3 fr, ?_⟩
            · rw [R4, if_neg c, hg, sg_26_53 (hp2 := hu), if_neg (by decide), jI_add]
              exact r Q
            · rw [if_pos rfl]
              exact cc
  let J0 : zJ := jrow J 3 (sset (sset (J 3) 1 n) 4 0)
  let J1 : zJ := jrow J0 u (sset (sset (sset (sset (sset (sset (sset (sset (sset (J0 u) 0 0) 3 0) 6 0) 10 0) 12 100) 13 10) 14 12) 15 0) 16 0)
  have q3 : J1 3 = sset (sset (J 3) 1 n) 4 0 := by
    show jrow J0 u _ 3 = _
    rw [jrow_ne (by omega)]
    exact jrow_same
  have q2 : J1 2 = J 2 := by
    show jrow J0 u _ 2 = _
    rw [jrow_ne (by omega)]
    exact jrow_ne (by decide)
  obtain ⟨o, J', r, fr, cc⟩ := main (n.toNat + 1) 0 J1 (s000 (J 356)) 0 0 0 (by omega) (by omega) n0 (by rw [q2]; exact ht) (by rw [q3, sset_ne (by decide), sset_eq rfl]) (by rw [q3, sset_eq rfl]) (RP_0 (J := J0) jrow_same) (okR_0 _)
  refine ⟨o, J', fun Q => ?_, fU_t (fU_t (fU_3 ug (fun r hr => jrow_ne hr)) (fU_r (Nat.le_refl _) (by omega) (fun h1 h2 => by omega))) fr, cc⟩
  rw [sg_26_0 (hp2 := hu)]
  simp (disch := first | assumption | omega) only [jm_n, jz_n, i_lit, i_c0, i_c1, jrow_same, jrow_jrow]
  show wz W 51 0 [.ref u] [] (jm J0) _ = _
  rw [sp_51 hu]
  show zk Q _ oV (jm J1) = _
  simp only [zk_l, zk_r, Option.toList_some, Option.toList_none, List.cons_append, List.nil_append, zrokB, zrokB0, zrokB1, zrokJ0, zrokJ1, and_true, true_and, and_self, if_true, if_false, b2_0, b2_1, b2_not, ite_self]
  rw [sg_26_14 (hp2 := hu)]
  exact r Q
end
