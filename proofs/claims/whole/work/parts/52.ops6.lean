/-! ===== calls that look ahead ===== -/
section
variable {W : zW} {J : zJ} {Q : zO → zI → Prop} {k : Int}
/-- on which day the pallet is spoiled -/
def fdl (s : Int → Int) (p : Int) : Nat → Nat → Option Nat
  | 0, _ => none
  | m + 1, n => if spo (nights s n) p = true then some n else fdl s p m (n + 1)
theorem cst_row {a : Nat} {f : Int → Int} {b : Nat} (h : b ≠ a) : jrow J a f b = J b := jrow_ne h
/-- the trial: the class's -/
theorem try_cx {s : Int → Int} {D : Int} (h : CX J 49 s D k) (e : Int → Int) (he : eqS s e) (hD : D ≤ 500) : CX (cpyJ J 76 49) 76 e D k := by
  obtain ⟨hb, hS, hU, hK, hDD, hD5, hk⟩ := h
  obtain ⟨⟨a1, a2, a3, a4, a5, a6⟩, -⟩ := id hDD
  obtain ⟨b1, b2x, b3, b4, b5, b6, b7, b8, b9, b10, b11, b12⟩ := hK.1
  have hs := same_eqS hK he
  refine ⟨zStk_76, RS_eqS hK a4 a6 (cpyJ_RS hS a4 a6 b8 b12) he, RU_same (RU_fr hU hK (fun r r0 r1 => cpyJ_fr r (by omega))) hK hs, okK_same hK hs, okD_eqS hK hDD he, hD5, hk⟩
theorem dl_c (hk0 : 0 ≤ k) (hk : k ≤ 21500) {s : Int → Int} {p : Int} (p0 : 0 ≤ p) (p1 : p < s 6) : ∀ (m : Nat), m ≤ 101 → ∀ (J : zJ), CX J 76 (nights s (101 - m)) (365 + (101 - m : Nat)) k → ∃ J', (∀ Q : zO → zI → Prop, wz W 137 40 [.ref 0, .int (jI p), .int (jI (101 - m : Nat))] [] (jm J) Q = Q (match fdl s p m (101 - m) with | some n => oI (n : Int) | none => oE 3) (jm J')) ∧ ∀ r, (r < 76 ∨ 103 ≤ r) → J' r = J r := by
  intro m
  induction m with
  | zero =>
    intro _ J hx
    refine ⟨J, fun Q => ?_, fun r hr => rfl⟩
    rw [sg_137_40, if_pos (by decide)]
    rfl
  | succ m ih =>
    intro hm J hx
    have h6 : nights s (101 - (m + 1)) 6 = s 6 := by
      have : ∀ n : Nat, nights s n 6 = s 6 := by
        intro n
        induction n with
        | zero => rfl
        | succ n ihn =>
          show fNight (nights s n) 6 = s 6
          rw [← ihn]
          unfold fNight
          rw [sset_ne (by decide), niP_ne (by omega), niC_ne (by omega)]
      exact this _
    have hrun : ∀ Q : zO → zI → Prop, wz W 137 40 [.ref 0, .int (jI p), .int (jI (101 - (m + 1) : Nat))] [] (jm J) Q = (if spo (nights s (101 - (m + 1))) p = false then wz W 83 0 [.ref 76, .int (jI 1), .float 0] [] (jm J) (zk Q (fun v I1 => wz W 137 67 [.ref 0, .int (jI p), .int (jI (101 - (m + 1) : Nat))] (v.toList ++ []) I1 Q)) else Q (oI (101 - (m + 1) : Nat)) (jm J)) := by
      intro Q
      rw [sg_137_40, if_neg (by rw [jI_lt (by omega) (by omega) (by omega) (by omega)]; omega), sp_73 hx p0 (by rw [h6]; exact p1)]
      simp only [zk_l, zk_r, Option.toList_some, Option.toList_none, List.cons_append, List.nil_append, zrokB, zrokB0, zrokB1, zrokJ0, zrokJ1, and_true, true_and, and_self, if_true, if_false, b2_0, b2_1, b2_not, ite_self]
      rw [sg_137_54]
      cases spo (nights s (101 - (m + 1))) p <;> rfl
    have hl : ((101 - (m + 1) : Nat) : Int) + 1 = (101 - m : Nat) := by omega
    cases hs : spo (nights s (101 - (m + 1))) p
    · obtain ⟨J1, r1, r2, r3⟩ := sp_83n (W := W) hx hk0 hk (n := 1) (by decide) (by omega)
      have hn : nights (nights s (101 - (m + 1))) 1 = nights s (101 - m) := by rw [show 101 - m = (101 - (m + 1)) + 1 by omega]; rfl
      rw [hn] at r2
      obtain ⟨hb, hS, hU, hK, hDD, hD5, hk5⟩ := hx
      obtain ⟨n1, n2⟩ := nights_ok hK hDD hk0 hk 1
      rw [hn] at n1 n2
      obtain ⟨J2, s1, s2⟩ := ih (by omega) J1 ⟨hb, r2, RU_same (RU_fr hU hK (fun r a b => r3 r (by omega))) hK n1, okK_same hK n1, okD_mono n2 (by omega) (Int.le_refl _), by omega, hk5⟩
      refine ⟨J2, fun Q => ?_, fun r hr => by rw [s2 r hr, r3 r (by omega)]⟩
      rw [hrun, hs, if_pos (by decide)]
      refine (r1 _).trans ?_
      simp only [zk_l, zk_r, Option.toList_some, Option.toList_none, List.cons_append, List.nil_append, zrokB, zrokB0, zrokB1, zrokJ0, zrokJ1, and_true, true_and, and_self, if_true, if_false, b2_0, b2_1, b2_not, ite_self]
      rw [sg_137_67, jI_add, hl]
      refine (s1 _).trans ?_
      have e : fdl s p (m + 1) (101 - (m + 1)) = fdl s p m (101 - m) := by
        show (if _ then _ else _) = _
        rw [hs, if_neg (by decide), show 101 - (m + 1) + 1 = 101 - m by omega]
      rw [e]
    · refine ⟨J, fun Q => ?_, fun r hr => rfl⟩
      rw [hrun, hs, if_neg (by decide)]
      have e : fdl s p (m + 1) (101 - (m + 1)) = some (101 - (m + 1)) := by
        show (if _ then _ else _) = _
        rw [hs, if_pos rfl]
      rw [e]
theorem dl_r (hk0 : 0 ≤ k) (hk : k ≤ 21500) {s : Int → Int} (hK : okK s) (hD : okD 365 k s) {p : Int} (p0 : 0 ≤ p) (p1 : p < s 6) : ∀ (m : Nat), m ≤ 101 → ∀ (J : zJ), J 357 = nights s (101 - m) → ∃ J', (∀ Q : zO → zI → Prop, wz W 267 56 [.ref 353, .int (jI p), .int (jI (101 - m : Nat))] [] (jm J) Q = Q (match fdl s p m (101 - m) with | some n => oI (n : Int) | none => oI 0) (jm J')) ∧ kp J J' ∧ J' 353 0 = (match fdl s p m (101 - m) with | some _ => J 353 0 | none => 3) := by
  intro m
  induction m with
  | zero =>
    intro _ J hx
    refine ⟨jrow J 353 (sset (J 353) 0 3), fun Q => ?_, kp_thr, ?_⟩
    · rw [sg_267_56, if_pos (by decide)]
      simp (disch := first | assumption | omega) only [jI_cl, jm_n, jz_n, i_lit, i_c0, i_c1, Int.toNat_of_nonneg, Int.toNat_natCast, jrow_same, jrow_ne, jrow_jrow, sset_eq, sset_ne]
      rfl
    · rw [jrow_same, sset_eq rfl]; rfl
  | succ m ih =>
    intro hm J hx
    obtain ⟨n1, n2⟩ := nights_ok hK hD hk0 hk (101 - (m + 1))
    have hK' := okK_same hK n1
    have h6 : nights s (101 - (m + 1)) 6 = s 6 := by
      have : ∀ n : Nat, nights s n 6 = s 6 := by
        intro n
        induction n with
        | zero => rfl
        | succ n ihn =>
          show fNight (nights s n) 6 = s 6
          rw [← ihn]
          unfold fNight
          rw [sset_ne (by decide), niP_ne (by omega), niC_ne (by omega)]
      exact this _
    have hrun : ∀ Q : zO → zI → Prop, wz W 267 56 [.ref 353, .int (jI p), .int (jI (101 - (m + 1) : Nat))] [] (jm J) Q = (if spo (nights s (101 - (m + 1))) p = false then wz W 263 0 [.ref 357, .float 0, .float 0, .float 0, .float 0] [] (jm J) (zk Q (fun v I1 => wz W 267 82 [.ref 353, .int (jI p), .int (jI (101 - (m + 1) : Nat))] (v.toList ++ []) I1 Q)) else Q (oI (101 - (m + 1) : Nat)) (jm J)) := by
      intro Q
      rw [sg_267_56, if_neg (by rw [jI_lt (by omega) (by omega) (by omega) (by omega)]; omega), sp_236 (D := 365 + (101 - (m + 1) : Nat)) (k := k) za_357 (by rw [hx]; exact hK') (by rw [hx]; exact n2) (by omega) p0 (by rw [hx, h6]; exact p1), hx]
      simp only [zk_l, zk_r, Option.toList_some, Option.toList_none, List.cons_append, List.nil_append, zrokB, zrokB0, zrokB1, zrokJ0, zrokJ1, and_true, true_and, and_self, if_true, if_false, b2_0, b2_1, b2_not, ite_self]
      rw [sg_267_70]
      cases spo (nights s (101 - (m + 1))) p <;> rfl
    have hl : ((101 - (m + 1) : Nat) : Int) + 1 = (101 - m : Nat) := by omega
    cases hs : spo (nights s (101 - (m + 1))) p
    · have hn : fNight (nights s (101 - (m + 1))) = nights s (101 - m) := by rw [show 101 - m = (101 - (m + 1)) + 1 by omega]; rfl
      obtain ⟨J2, s1, s2, s3⟩ := ih (by omega) (jrow J 357 (nights s (101 - m))) jrow_same
      have e : fdl s p (m + 1) (101 - (m + 1)) = fdl s p m (101 - m) := by
        show (if _ then _ else _) = _
        rw [hs, if_neg (by decide), show 101 - (m + 1) + 1 = 101 - m by omega]
      refine ⟨J2, fun Q => ?_, kp_trans (kp_row (by omega)) s2, ?_⟩
      · rw [hrun, hs, if_pos (by decide), sp_263 (D := 365 + (101 - (m + 1) : Nat)) (k := k) za_357 (by rw [hx]; exact hK') (by rw [hx]; exact n2) hk0 hk (by omega), hx, hn]
        simp only [zk_l, zk_r, Option.toList_some, Option.toList_none, List.cons_append, List.nil_append, zrokB, zrokB0, zrokB1, zrokJ0, zrokJ1, and_true, true_and, and_self, if_true, if_false, b2_0, b2_1, b2_not, ite_self]
        rw [sg_267_82, jI_add, hl]
        refine (s1 _).trans ?_
        rw [e]
      · rw [s3, e, jrow_ne (by decide)]
    · have e : fdl s p (m + 1) (101 - (m + 1)) = some (101 - (m + 1)) := by
        show (if _ then _ else _) = _
        rw [hs, if_pos rfl]
      refine ⟨J, fun Q => ?_, kp_refl J, ?_⟩
      · rw [hrun, hs, if_neg (by decide), e]
      · rw [e]
theorem kp_76 {J J' : zJ} (h : ∀ r, (r < 76 ∨ 103 ≤ r) → J' r = J r) : kp J J' := by
  refine ⟨fun r hr => h r (by omega), ?_, ?_, ?_⟩ <;> rw [h 353 (by decide)]
theorem op_daysLeft (hk0 : 0 ≤ k) (hk1 : k ≤ 21500) {p : Int} (p1 : -2147483648 ≤ p) (p2 : p < 2147483648) : Op W k [0, 2, 3] 137 267 [.ref 0, .int (jI p), .float 0] [.ref 353, .int (jI p), .float 0] := by
  have hk : k ≤ 30000 := by omega
  refine Op.q (fun J g t => ?_)
  obtain ⟨-, t2, t3, -⟩ := id t
  obtain ⟨a1', a2', a3', a4', a5', a6'⟩ := t3.1
  obtain ⟨b1, b2x, b3, b4, b5, b6, b7, b8, b9, b10, b11, b12⟩ := t2.1
  obtain ⟨-, hS, hU, -⟩ := id g
  obtain ⟨d1, d2, d3, hpl, hq, hc, ho⟩ := id hS
  have hcx := GC_cx g t hk
  by_cases v : 0 ≤ p ∧ p < J 355 6
  · obtain ⟨q1, q2, q3, q4, q5, q6, -⟩ := t3.2.2.2.1 p v.1 v.2
    have href : ∀ (J : zJ), (0 ≤ p ∧ p < J 355 6) → J 355 6 ≤ 40 → J 355 (72 + 7 * p + 2) ≤ 3 → 0 ≤ J 355 (72 + 7 * p + 2) → ∀ Q : zO → zI → Prop, wz W 267 0 [.ref 353, .int (jI p), .float 0] [] (jm J) Q = wz W 178 0 [.ref 353, .int (b2 (thr (J 355) p)), .int (jI 2)] [] (jm (jrow J 353 (sset (J 353) 0 0))) (zk Q (fun v I1 => wz W 267 38 [.ref 353, .int (jI p), .float 0] (v.toList ++ []) I1 Q)) := by
      intro J v a4' q4 q3 Q
      rw [sg_267_0]
      simp (disch := first | assumption | omega) only [jI_cl, jm_n, jz_n, i_lit, i_c0, i_c1, Int.toNat_of_nonneg, Int.toNat_natCast, jrow_same, jrow_ne, jrow_jrow, sset_eq, sset_ne]
      rw [sp_217v v.1 (by rw [e355]; exact v.2) (by rw [e355]; exact a4')]
      simp only [zk_l, zk_r, Option.toList_some, Option.toList_none, List.cons_append, List.nil_append, zrokB, zrokB0, zrokB1, zrokJ0, zrokJ1, and_true, true_and, and_self, if_true, if_false, b2_0, b2_1, b2_not, ite_self]
      rw [sg_267_11, sp_178t]
      simp only [zk_l, zk_r, Option.toList_some, Option.toList_none, List.cons_append, List.nil_append, zrokB, zrokB0, zrokB1, zrokJ0, zrokJ1, and_true, true_and, and_self, if_true, if_false, b2_0, b2_1, b2_not, ite_self]
      rw [sg_267_15, if_pos (by decide), sp_221 (by omega) v.1 (by omega), e355]
      simp only [zk_l, zk_r, Option.toList_some, Option.toList_none, List.cons_append, List.nil_append, zrokB, zrokB0, zrokB1, zrokJ0, zrokJ1, and_true, true_and, and_self, if_true, if_false, b2_0, b2_1, b2_not, ite_self]
      unfold thr
      rw [sg_267_25]
      by_cases c : J 355 (72 + 7 * p + 2) ≤ 1
      · rw [if_neg (by rw [jI_lt (by omega) (by omega) (by omega) (by omega)]; omega), sg_267_34, decide_eq_true c]; rfl
      · rw [if_pos (by rw [jI_lt (by omega) (by omega) (by omega) (by omega)]; omega), sg_267_34, decide_eq_false c]; rfl
    cases w : thr (J 355) p
    · refine ⟨oE 2, J, 0, jrow J 353 (sset (J 353) 0 2), fun Q => ?_, fun Q => ?_, kp_thr, mt_er 1 2 rfl rfl⟩
      · rw [sg_137_0, sp_163v v.1 (by omega) (by omega)]
        simp only [zk_l, zk_r, Option.toList_some, Option.toList_none, List.cons_append, List.nil_append, zrokB, zrokB0, zrokB1, zrokJ0, zrokJ1, and_true, true_and, and_self, if_true, if_false, b2_0, b2_1, b2_not, ite_self]
        rw [sg_137_5, sp_71 hcx v.1 v.2, w]
        simp only [zk_l, zk_r, Option.toList_some, Option.toList_none, List.cons_append, List.nil_append, zrokB, zrokB0, zrokB1, zrokJ0, zrokJ1, and_true, true_and, and_self, if_true, if_false, b2_0, b2_1, b2_not, ite_self]
        rw [sg_137_13, if_pos (by decide)]
      · rw [href J v a4' (by omega) (by omega), w, sp_178f]
        simp only [sset_ss, zk_l, zk_r, Option.toList_some, Option.toList_none, List.cons_append, List.nil_append, zrokB, zrokB0, zrokB1, zrokJ0, zrokJ1, and_true, true_and, and_self, if_true, if_false, b2_0, b2_1, b2_not, ite_self, jI_cl, jm_n, jz_n, i_lit, i_c0, i_c1, Int.toNat_of_nonneg, Int.toNat_natCast, jrow_same, jrow_ne, jrow_jrow, sset_eq, sset_ne]
        rw [sg_267_38, if_neg (by decide), sg_267_41]
    · let e : Int → Int := scpy (J 355) (J 357) 472
      have he : eqS (J 355) e := eqS_symm (scpy_eqS _ _)
      have hcx2 := try_cx hcx e he (by decide)
      have hKe : okK e := hcx2.2.2.2.1
      have hDe : okD 365 k e := hcx2.2.2.2.2.1
      have hp2 : p < e 6 := by rw [← he 6 (by decide) (by decide)]; exact v.2
      obtain ⟨J1, c1, c2⟩ := dl_c (W := W) hk0 hk1 v.1 hp2 101 (Nat.le_refl _) _ hcx2
      have hfr : ∀ r, (r < 76 ∨ 103 ≤ r) → J1 r = J r := fun r hr => by rw [c2 r hr, cpyJ_fr r (by omega)]
      have f355 := hfr 355 (by decide)
      have f357 := hfr 357 (by decide)
      obtain ⟨J2, r1, r2, r3⟩ := dl_r (W := W) hk0 hk1 hKe hDe v.1 hp2 101 (Nat.le_refl _) (jrow (jrow J1 353 (sset (J1 353) 0 0)) 357 e) jrow_same
      have hrun : ∀ Q : zO → zI → Prop, wz W 267 0 [.ref 353, .int (jI p), .float 0] [] (jm J1) Q = Q (match fdl e p 101 0 with | some n => oI (n : Int) | none => oI 0) (jm J2) := by
        intro Q
        rw [href J1 (by rw [f355]; exact v) (by rw [f355]; exact a4') (by rw [f355]; omega) (by rw [f355]; omega), f355, w, sp_178t]
        simp only [zk_l, zk_r, Option.toList_some, Option.toList_none, List.cons_append, List.nil_append, zrokB, zrokB0, zrokB1, zrokJ0, zrokJ1, and_true, true_and, and_self, if_true, if_false, b2_0, b2_1, b2_not, ite_self]
        rw [sg_267_38, if_pos (by decide), sp_196 za_355 za_357 (by decide) (by decide) (by decide) (by decide) (by decide), jrow_ne (show 355 ≠ 353 by decide), jrow_ne (show 357 ≠ 353 by decide), f355, f357]
        simp only [zk_l, zk_r, Option.toList_some, Option.toList_none, List.cons_append, List.nil_append, zrokB, zrokB0, zrokB1, zrokJ0, zrokJ1, and_true, true_and, and_self, if_true, if_false, b2_0, b2_1, b2_not, ite_self]
        rw [sg_267_54]
        exact r1 Q
      have hcl : ∀ Q : zO → zI → Prop, wz W 137 0 [.ref 0, .int (jI p), .float 0] [] (jm J) Q = Q (match fdl e p 101 0 with | some n => oI (n : Int) | none => oE 3) (jm J1) := by
        intro Q
        rw [sg_137_0, sp_163v v.1 (by omega) (by omega)]
        simp only [zk_l, zk_r, Option.toList_some, Option.toList_none, List.cons_append, List.nil_append, zrokB, zrokB0, zrokB1, zrokJ0, zrokJ1, and_true, true_and, and_self, if_true, if_false, b2_0, b2_1, b2_not, ite_self]
        rw [sg_137_5, sp_71 hcx v.1 v.2, w]
        simp only [zk_l, zk_r, Option.toList_some, Option.toList_none, List.cons_append, List.nil_append, zrokB, zrokB0, zrokB1, zrokJ0, zrokJ1, and_true, true_and, and_self, if_true, if_false, b2_0, b2_1, b2_not, ite_self]
        rw [sg_137_13, if_neg (by decide), sp_62 zStk_76 zStk_49 (by decide)]
        simp only [zk_l, zk_r, Option.toList_some, Option.toList_none, List.cons_append, List.nil_append, zrokB, zrokB0, zrokB1, zrokJ0, zrokJ1, and_true, true_and, and_self, if_true, if_false, b2_0, b2_1, b2_not, ite_self]
        rw [sg_137_38]
        exact c1 Q
      have hkp : kp J J2 := kp_trans (kp_76 hfr) (kp_trans kp_thr (kp_trans (kp_row (by omega)) r2))
      have r3' : J2 353 0 = (match fdl e p 101 0 with | some _ => 0 | none => 3) := by
        rw [r3, show 101 - 101 = 0 from rfl]
        cases fdl e p 101 0
        · rfl
        · show jrow (jrow J1 353 (sset (J1 353) 0 0)) 357 e 353 0 = 0
          rw [jrow_ne (by decide), jrow_same, sset_eq rfl]
      cases hf : fdl e p 101 0 with
      | none =>
        rw [hf] at hrun hcl r3'
        exact ⟨oE 3, J1, 0, J2, hcl, hrun, hkp, Or.inr ⟨2, 3, rfl, rfl, r3'⟩⟩
      | some n =>
        rw [hf] at hrun hcl r3'
        exact ⟨oI n, J1, n, J2, hcl, hrun, hkp, Or.inl ⟨rfl, r3'⟩⟩
  · refine ⟨oE 0, J, 0, jrow J 353 (sset (J 353) 0 1), fun Q => ?_, fun Q => ?_, kp_thr, mt_er 0 0 rfl rfl⟩
    · rw [sg_137_0, sp_163n p1 p2 (by rw [d2]; exact v) (by omega) (by omega)]
      simp only [zk_l, zk_r, Option.toList_some, Option.toList_none, List.cons_append, List.nil_append, zrokB, zrokB0, zrokB1, zrokJ0, zrokJ1, and_true, true_and, and_self, if_true, if_false, b2_0, b2_1, b2_not, ite_self]
    · rw [sg_267_0]
      simp (disch := first | assumption | omega) only [jI_cl, jm_n, jz_n, i_lit, i_c0, i_c1, Int.toNat_of_nonneg, Int.toNat_natCast, jrow_same, jrow_ne, jrow_jrow, sset_eq, sset_ne]
      rw [sp_217n p1 p2 (by rw [e355]; exact v) (by rw [e355]; exact a3') (by rw [e355]; exact a4')]
      simp only [zk_l, zk_r, Option.toList_some, Option.toList_none, List.cons_append, List.nil_append, zrokB, zrokB0, zrokB1, zrokJ0, zrokJ1, and_true, true_and, and_self, if_true, if_false, b2_0, b2_1, b2_not, ite_self]
      rw [sg_267_11, sp_178f]
      simp only [sset_ss, zk_l, zk_r, Option.toList_some, Option.toList_none, List.cons_append, List.nil_append, zrokB, zrokB0, zrokB1, zrokJ0, zrokJ1, and_true, true_and, and_self, if_true, if_false, b2_0, b2_1, b2_not, ite_self, jI_cl, jm_n, jz_n, i_lit, i_c0, i_c1, Int.toNat_of_nonneg, Int.toNat_natCast, jrow_same, jrow_ne, jrow_jrow, sset_eq, sset_ne]
      rw [sg_267_15, if_neg (by decide), sg_267_41]
/-- what is spoiled remains so -/
theorem cntB_df {p q : Nat → Bool} : ∀ n : Nat, (∀ i, i < n → q i = true → p i = true) → cntB p n = cntB q n + cntB (fun i => p i && !(q i)) n := by
  intro n
  induction n with
  | zero => intro _; rfl
  | succ n ih =>
    intro h
    have hn := h n (by omega)
    rw [cnt_step, cnt_step, cnt_step, ih (fun i hi => h i (by omega))]
    cases hp : p n <;> cases hq : q n <;> simp [hp, hq] at hn ⊢ <;> omega
theorem night_mon {s : Int → Int} (hK : okK s) {D : Int} (hD : okD D k s) (hk0 : 0 ≤ k) (hk : k ≤ 21500) {p : Int} (p0 : 0 ≤ p) (p1 : p < s 6) : fNight s (72 + 7 * p + 2) = s (72 + 7 * p + 2) ∧ (thr s p = true → spo s p = true → spo (fNight s) p = true) := by
  obtain ⟨n1, n2⟩ := niC_ok hK hD hk0
  obtain ⟨⟨a1, a2, a3, a4, a5, a6⟩, -⟩ := id hD
  obtain ⟨b1, b2x, b3, b4, b5, b6, b7, b8, b9, b10, b11, b12⟩ := hK.1
  obtain ⟨⟨c1, c2, c3, c4, c5, c6⟩, cT, cV, cP, cW, cL, cQ, cN⟩ := n2
  have hKu := okK_same hK n1
  have e6 : niC s (s 4) 6 = s 6 := niC_ne (by omega)
  obtain ⟨g0, g1, -⟩ := cP p p0 (by rw [e6]; exact p1)
  have hsm := smK_bd hKu cQ cP g0 g1 (niC s (s 4) 8).toNat (by omega)
  have hsm' : 0 ≤ smF (niC s (s 4)) (niC s (s 4) (72 + 7 * p)) := hsm.1
  have hht : ∀ a b, 0 ≤ htF (niC s (s 4)) a b := fun a b => by unfold htF; omega
  have hht := hht (niC s (s 4) (72 + 7 * p)) (waF (niC s (s 4)) (niC s (s 4) (72 + 7 * p + 3)))
  have u0 : ∀ j, j < 12 ∨ 36 ≤ j → niC s (s 4) j = s j := fun j hj => niC_ne (by omega)
  have f0 : fNight s 0 = s 0 + 1 := by unfold fNight; rw [sset_eq rfl]
  have f1 : ∀ j, j ≠ 0 → (j < 12 ∨ (36 ≤ j ∧ (j < 72 ∨ ((j - 72) % 7 ≠ 4 ∧ (j - 72) % 7 ≠ 5)))) → fNight s j = s j := fun j h0 hj => by
    unfold fNight
    rw [sset_ne h0, niP_ne (by omega), u0 j (by omega)]
  have f4 : s (72 + 7 * p + 4) ≤ fNight s (72 + 7 * p + 4) := by
    unfold fNight
    rw [sset_ne (by omega), niP_h p0 p1, u0 _ (by omega : _ ∨ 36 ≤ 72 + 7 * p + 4)]
    split <;> omega
  have f5 : s (72 + 7 * p + 5) ≤ fNight s (72 + 7 * p + 5) := by
    unfold fNight
    rw [sset_ne (by omega), niP_t p0 p1, u0 _ (by omega : _ ∨ 36 ≤ 72 + 7 * p + 5)]
    split <;> omega
  have f2 := f1 (72 + 7 * p + 2) (by omega) (by omega)
  refine ⟨f2, fun ht hs => ?_⟩
  have ht := of_decide_eq_true ht
  rw [u0 _ (by omega : _ ∨ 36 ≤ 72 + 7 * p)] at g0 g1
  rw [u0 5 (by omega)] at g1
  unfold spo at hs ⊢
  rw [f0, f1 1 (by omega) (by omega), f1 2 (by omega) (by omega), f1 (72 + 7 * p) (by omega) (by omega), f1 (36 + 6 * s (72 + 7 * p) + 3) (by omega) (by omega), f1 (72 + 7 * p + 2) (by omega) (by omega), f1 (72 + 7 * p + 1) (by omega) (by omega), if_neg (by omega)]
  rw [if_neg (by omega)] at hs
  simp only [Bool.or_eq_true, decide_eq_true_eq] at hs ⊢
  omega
theorem nights_mon {s : Int → Int} (hK : okK s) {D : Int} (hD : okD D k s) (hk0 : 0 ≤ k) (hk : k ≤ 21500) {p : Int} (p0 : 0 ≤ p) (p1 : p < s 6) : ∀ n : Nat, nights s n 6 = s 6 ∧ nights s n (72 + 7 * p + 2) = s (72 + 7 * p + 2) ∧ (thr s p = true → spo s p = true → spo (nights s n) p = true) := by
  intro n
  induction n with
  | zero => exact ⟨rfl, rfl, fun _ h => h⟩
  | succ n ih =>
    obtain ⟨h1, h2, h3⟩ := ih
    obtain ⟨x1, x2⟩ := nights_ok hK hD hk0 hk n
    obtain ⟨y1, y2⟩ := night_mon (okK_same hK x1) x2 hk0 hk p0 (by rw [h1]; exact p1)
    refine ⟨?_, y1.trans h2, fun a b => y2 ?_ (h3 a b)⟩
    · show fNight (nights s n) 6 = s 6
      rw [← h1]
      unfold fNight
      rw [sset_ne (by decide), niP_ne (by omega), niC_ne (by omega)]
    · unfold thr at a ⊢
      rw [h2]
      exact a
theorem cntW_eq {s : Int → Int} (hK : okK s) {D : Int} (hD : okD D k s) (hk0 : 0 ≤ k) (hk : k ≤ 21500) (n : Nat) : cntZ (nights s n) (s 6).toNat = cntZ s (s 6).toNat + cntW s (nights s n) (s 6).toNat := by
  unfold cntZ cntW
  rw [cntB_df (p := fun p : Nat => thr (nights s n) p && spo (nights s n) p) (q := fun p : Nat => thr s p && spo s p) _ (fun i hi h => ?_)]
  · congr 1
    refine cntB_cg _ (fun i hi => ?_)
    obtain ⟨h1, h2, h3⟩ := nights_mon hK hD hk0 hk (p := i) (by omega) (by omega) n
    have ht : thr (nights s n) i = thr s i := by unfold thr; rw [h2]
    try simp only
    rw [ht]
    cases thr s i <;> cases spo (nights s n) i <;> cases spo s i <;> rfl
  · obtain ⟨h1, h2, h3⟩ := nights_mon hK hD hk0 hk (p := i) (by omega) (by omega) n
    have ht : thr (nights s n) i = thr s i := by unfold thr; rw [h2]
    try simp only at h ⊢
    rw [Bool.and_eq_true] at h ⊢
    rw [ht]
    exact ⟨h.1, h3 h.1 h.2⟩
theorem nights_eqS {s t : Int → Int} (hK : okK s) {D : Int} (hD : okD D k s) (e : eqS s t) : cntZ s (s 6).toNat = cntZ t (t 6).toNat := by
  have ee : ∀ i, 0 ≤ i ∧ i < 472 → s i = t i := fun i hi => e i hi.1 hi.2
  obtain ⟨⟨a1, a2, a3, a4, a5, a6⟩, -, -, hP, -⟩ := id hD
  obtain ⟨b1, b2x, b3, b4, b5, b6, b7, b8, b9, b10, b11, b12⟩ := hK.1
  rw [← ee 6 (by omega)]
  unfold cntZ
  refine cntB_cg _ (fun i hi => ?_)
  obtain ⟨q1, q2, -⟩ := hP i (by omega) (by omega)
  unfold thr spo
  rw [ee (72 + 7 * (i : Int) + 2) (by omega), ee 1 (by omega), ee 2 (by omega), ee (72 + 7 * (i : Int) + 4) (by omega), ee (72 + 7 * (i : Int) + 5) (by omega), ee (36 + 6 * s (72 + 7 * (i : Int)) + 3) (by omega), ee (72 + 7 * (i : Int)) (by omega), ee (72 + 7 * (i : Int) + 6) (by omega), ee 0 (by omega), ee (72 + 7 * (i : Int) + 1) (by omega)]
theorem cntW_cg {s t u : Int → Int} (hK : okK s) {D : Int} (hD : okD D k s) (e : eqS s t) : cntW s u (s 6).toNat = cntW t u (s 6).toNat := by
  have ee : ∀ i, 0 ≤ i ∧ i < 472 → s i = t i := fun i hi => e i hi.1 hi.2
  obtain ⟨⟨a1, a2, a3, a4, a5, a6⟩, -, -, hP, -⟩ := id hD
  obtain ⟨b1, b2x, b3, b4, b5, b6, b7, b8, b9, b10, b11, b12⟩ := hK.1
  unfold cntW
  refine cntB_cg _ (fun i hi => ?_)
  obtain ⟨q1, q2, -⟩ := hP i (by omega) (by omega)
  have : spo s i = spo t i := by
    unfold spo
    rw [ee (72 + 7 * (i : Int) + 2) (by omega), ee 1 (by omega), ee 2 (by omega), ee (72 + 7 * (i : Int) + 4) (by omega), ee (72 + 7 * (i : Int) + 5) (by omega), ee (36 + 6 * s (72 + 7 * (i : Int)) + 3) (by omega), ee (72 + 7 * (i : Int)) (by omega), ee (72 + 7 * (i : Int) + 6) (by omega), ee 0 (by omega), ee (72 + 7 * (i : Int) + 1) (by omega)]
  rw [this]
theorem op_spoilsWithin (hk0 : 0 ≤ k) (hk1 : k ≤ 21500) {n : Int} (p1 : -2147483648 ≤ n) (p2 : n < 2147483648) : Op W k [1] 139 268 [.ref 0, .int (jI n)] [.ref 353, .int (jI n), .float 0] := by
  have hk : k ≤ 30000 := by omega
  refine Op.q (fun J g t => ?_)
  obtain ⟨-, t2, t3, -⟩ := id t
  obtain ⟨a1', a2', a3', a4', a5', a6'⟩ := t3.1
  obtain ⟨b1, b2x, b3, b4, b5, b6, b7, b8, b9, b10, b11, b12⟩ := t2.1
  obtain ⟨-, hS, hU, -⟩ := id g
  obtain ⟨d1, d2, d3, hpl, hq, hc, ho⟩ := id hS
  have hcx := GC_cx g t hk
  have href : ∀ J : zJ, ∀ Q : zO → zI → Prop, wz W 268 0 [.ref 353, .int (jI n), .float 0] [] (jm J) Q = wz W 178 0 [.ref 353, .int (b2 (decide (1 ≤ n) && decide (n ≤ 100))), .int (jI 1)] [] (jm (jrow J 353 (sset (J 353) 0 0))) (zk Q (fun v I1 => wz W 268 17 [.ref 353, .int (jI n), .float 0] (v.toList ++ []) I1 Q)) := by
    intro J Q
    rw [sg_268_0]
    simp (disch := first | assumption | omega) only [jI_cl, jm_n, jz_n, i_lit, i_c0, i_c1, Int.toNat_of_nonneg, Int.toNat_natCast, jrow_same, jrow_ne, jrow_jrow, sset_eq, sset_ne]
    rw [sp_176j p1 p2 (by omega) (by omega) (by omega) (by omega)]
    simp only [zk_l, zk_r, Option.toList_some, Option.toList_none, List.cons_append, List.nil_append, zrokB, zrokB0, zrokB1, zrokJ0, zrokJ1, and_true, true_and, and_self, if_true, if_false, b2_0, b2_1, b2_not, ite_self]
    rw [sg_268_13]
  by_cases v : 1 ≤ n ∧ n ≤ 100
  · obtain ⟨m, rfl⟩ : ∃ m : Nat, n = m := ⟨n.toNat, by omega⟩
    let e : Int → Int := scpy (J 355) (J 357) 472
    have he : eqS (J 355) e := eqS_symm (scpy_eqS _ _)
    have hcx2 := try_cx hcx e he (by decide)
    have hKe : okK e := hcx2.2.2.2.1
    have hDe : okD 365 k e := hcx2.2.2.2.2.1
    have he6 : e 6 = J 355 6 := (he 6 (by decide) (by decide)).symm
    obtain ⟨J1, c1, c2, c3⟩ := sp_83n (W := W) hcx2 hk0 hk1 (n := m) (by omega) (by omega)
    have hfr : ∀ r, (r < 76 ∨ 103 ≤ r) → J1 r = J r := fun r hr => by rw [c3 r (by omega), cpyJ_fr r (by omega)]
    obtain ⟨n1, n2⟩ := nights_ok hKe hDe hk0 hk1 m
    have n6 : nights e m 6 = e 6 := by
      have : ∀ n : Nat, nights e n 6 = e 6 := by
        intro n
        induction n with
        | zero => rfl
        | succ n ihn =>
          show fNight (nights e n) 6 = e 6
          rw [← ihn]
          unfold fNight
          rw [sset_ne (by decide), niP_ne (by omega), niC_ne (by omega)]
      exact this _
    have hcx3 : CX J1 76 (nights e m) (365 + m) k := ⟨zStk_76, c2, RU_same (RU_fr hcx2.2.2.1 hKe (fun r a b => c3 r (by omega))) hKe n1, okK_same hKe n1, n2, by omega, hk⟩
    have hcx4 : CX J1 49 (J 355) 365 k := ⟨zStk_49, RS_fr hS (fun r a b => hfr r (by omega)), RU_fr hU t2 (fun r a b => hfr r (by omega)), t2, t3, by decide, hk⟩
    have f355 := hfr 355 (by decide)
    have f357 := hfr 357 (by decide)
    have hcnt := cntW_eq hKe hDe hk0 hk1 m
    have hz1 := cntB_le (fun p : Nat => thr (nights e m) p && spo (nights e m) p) (e 6).toNat
    have hz2 := cntB_le (fun p : Nat => thr (J 355) p && spo (J 355) p) (J 355 6).toNat
    have hz1' : cntZ (nights e m) (e 6).toNat ≤ (e 6).toNat := hz1
    have hz2' : cntZ (J 355) (J 355 6).toNat ≤ (J 355 6).toNat := hz2
    have hz3 := nights_eqS t2 t3 he
    have hz4 := cntW_cg (u := nights e m) t2 t3 he
    have hval : (cntZ (nights e m) (nights e m 6).toNat : Int) - cntZ (J 355) (J 355 6).toNat = cntW (J 355) (nights e m) (nights e m 6).toNat := by
      rw [n6, he6] at *
      omega
    have hlp : ∀ (i : Nat), i ≤ m → ∀ Q : zO → zI → Prop, wz W 268 35 [.ref 353, .int (jI m), .int (jI (m - i : Nat))] [] (jm (jrow (jrow J1 353 (sset (J1 353) 0 0)) 357 (nights e (m - i)))) Q = Q (oI (cntW (J 355) (nights e m) (nights e m 6).toNat)) (jm (jrow (jrow J1 353 (sset (J1 353) 0 0)) 357 (nights e m))) := by
      intro i
      induction i with
      | zero =>
        intro _ Q
        rw [Nat.sub_zero, sg_268_35, if_pos (Int32.le_refl _), sp_265 (D := 365) (k := k) (D' := 365 + m) (k' := k) za_355 za_357 (by rw [jrow_ne (by decide), jrow_ne (by decide), f355]; exact t2) (by rw [jrow_ne (by decide), jrow_ne (by decide), f355]; exact t3) (by decide) (by rw [jrow_same]; exact okK_same hKe n1) (by rw [jrow_same]; exact n2) (by omega) (by rw [jrow_same, jrow_ne (by decide), jrow_ne (by decide), f355, n6, he6]), jrow_same, jrow_ne (show 355 ≠ 357 by decide), jrow_ne (show 355 ≠ 353 by decide), f355]
        simp only [zk_l, zk_r, Option.toList_some, Option.toList_none, List.cons_append, List.nil_append, zrokB, zrokB0, zrokB1, zrokJ0, zrokJ1, and_true, true_and, and_self, if_true, if_false, b2_0, b2_1, b2_not, ite_self]
        rw [sg_268_64]
      | succ i ih =>
        intro hi Q
        obtain ⟨x1, x2⟩ := nights_ok hKe hDe hk0 hk1 (m - (i + 1))
        rw [sg_268_35, if_neg (by rw [jI_le (by omega) (by omega) (by omega) (by omega)]; omega), sp_263 (D := 365 + (m - (i + 1) : Nat)) (k := k) za_357 (by rw [jrow_same]; exact okK_same hKe x1) (by rw [jrow_same]; exact x2) hk0 hk1 (by omega), jrow_same, jrow_jrow]
        simp only [zk_l, zk_r, Option.toList_some, Option.toList_none, List.cons_append, List.nil_append, zrokB, zrokB0, zrokB1, zrokJ0, zrokJ1, and_true, true_and, and_self, if_true, if_false, b2_0, b2_1, b2_not, ite_self]
        have e1 : fNight (nights e (m - (i + 1))) = nights e (m - i) := by rw [show m - i = (m - (i + 1)) + 1 by omega]; rfl
        rw [sg_268_47, jI_add, e1, show ((m - (i + 1) : Nat) : Int) + 1 = (m - i : Nat) by omega]
        exact ih (by omega) Q
    refine ⟨oI (cntW (J 355) (nights e m) (nights e m 6).toNat), J1, (cntW (J 355) (nights e m) (nights e m 6).toNat : Int), jrow (jrow J1 353 (sset (J1 353) 0 0)) 357 (nights e m), fun Q => ?_, fun Q => ?_, kp_trans (kp_76 hfr) (kp_trans kp_thr (kp_row (by omega))), Or.inl ⟨rfl, by rw [jrow_ne (by decide), jrow_same, sset_eq rfl]⟩⟩
    · rw [sg_139_0, if_neg (by rw [jI_lt (by omega) (by omega) (by omega) (by omega)]; omega), if_pos (by rw [jI_le (by omega) (by omega) (by omega) (by omega)]; omega), sp_62 zStk_76 zStk_49 (by decide)]
      simp only [zk_l, zk_r, Option.toList_some, Option.toList_none, List.cons_append, List.nil_append, zrokB, zrokB0, zrokB1, zrokJ0, zrokJ1, and_true, true_and, and_self, if_true, if_false, b2_0, b2_1, b2_not, ite_self]
      rw [sg_139_33]
      refine (c1 _).trans ?_
      simp only [zk_l, zk_r, Option.toList_some, Option.toList_none, List.cons_append, List.nil_append, zrokB, zrokB0, zrokB1, zrokJ0, zrokJ1, and_true, true_and, and_self, if_true, if_false, b2_0, b2_1, b2_not, ite_self]
      rw [sg_139_41, sp_74 hcx3]
      simp only [zk_l, zk_r, Option.toList_some, Option.toList_none, List.cons_append, List.nil_append, zrokB, zrokB0, zrokB1, zrokJ0, zrokJ1, and_true, true_and, and_self, if_true, if_false, b2_0, b2_1, b2_not, ite_self]
      rw [sg_139_48, sp_74 hcx4]
      simp only [zk_l, zk_r, Option.toList_some, Option.toList_none, List.cons_append, List.nil_append, zrokB, zrokB0, zrokB1, zrokJ0, zrokJ1, and_true, true_and, and_self, if_true, if_false, b2_0, b2_1, b2_not, ite_self]
      rw [sg_139_55, jI_sub, hval]
    · rw [href, decide_eq_true v.1, decide_eq_true v.2, Bool.and_self, sp_178t]
      simp only [zk_l, zk_r, Option.toList_some, Option.toList_none, List.cons_append, List.nil_append, zrokB, zrokB0, zrokB1, zrokJ0, zrokJ1, and_true, true_and, and_self, if_true, if_false, b2_0, b2_1, b2_not, ite_self]
      rw [sg_268_17, if_pos (by decide), sp_196 za_355 za_357 (by decide) (by decide) (by decide) (by decide) (by decide), jrow_ne (show 355 ≠ 353 by decide), jrow_ne (show 357 ≠ 353 by decide), f355, f357]
      simp only [zk_l, zk_r, Option.toList_some, Option.toList_none, List.cons_append, List.nil_append, zrokB, zrokB0, zrokB1, zrokJ0, zrokJ1, and_true, true_and, and_self, if_true, if_false, b2_0, b2_1, b2_not, ite_self]
      rw [sg_268_33]
      have h0 := hlp m (Nat.le_refl _) Q
      rw [Nat.sub_self] at h0
      exact h0
  · refine ⟨oE 1, J, 0, jrow J 353 (sset (J 353) 0 1), fun Q => ?_, fun Q => ?_, kp_thr, mt_er 0 1 rfl rfl⟩
    · rw [sg_139_0]
      by_cases c : n < 1
      · rw [if_pos (by rw [jI_lt (by omega) (by omega) (by omega) (by omega)]; omega), sg_139_11]
      · rw [if_neg (by rw [jI_lt (by omega) (by omega) (by omega) (by omega)]; omega), if_neg (by rw [jI_le (by omega) (by omega) (by omega) (by omega)]; omega), sg_139_11]
    · have ef : (decide (1 ≤ n) && decide (n ≤ 100)) = false := by
        rw [← Bool.not_eq_true, Bool.and_eq_true, decide_eq_true_eq, decide_eq_true_eq]
        exact v
      rw [href, ef, sp_178f]
      simp only [sset_ss, zk_l, zk_r, Option.toList_some, Option.toList_none, List.cons_append, List.nil_append, zrokB, zrokB0, zrokB1, zrokJ0, zrokJ1, and_true, true_and, and_self, if_true, if_false, b2_0, b2_1, b2_not, ite_self, jI_cl, jm_n, jz_n, i_lit, i_c0, i_c1, Int.toNat_of_nonneg, Int.toNat_natCast, jrow_same, jrow_ne, jrow_jrow, sset_eq, sset_ne]
      rw [sg_268_17, if_neg (by decide)]
end
