/-! ===== what calls keep; changes and the history ===== -/
/-- nothing of account is changed -/
def kp (J J' : zJ) : Prop := (∀ r, (r = 0 ∨ r = 2 ∨ (5 ≤ r ∧ r ≤ 26) ∨ (49 ≤ r ∧ r ≤ 75) ∨ (103 ≤ r ∧ r ≤ 130) ∨ (132 ≤ r ∧ r ≤ 347) ∨ r = 354 ∨ r = 355 ∨ r = 359 ∨ r = 360) → J' r = J r) ∧ J' 353 2 = J 353 2 ∧ J' 353 15 = J 353 15 ∧ J' 353 17 = J 353 17
theorem kp_refl (J : zJ) : kp J J := ⟨fun _ _ => rfl, rfl, rfl, rfl⟩
theorem kp_trans {J J' J'' : zJ} (h : kp J J') (g : kp J' J'') : kp J J'' := ⟨fun r hr => (g.1 r hr).trans (h.1 r hr), g.2.1.trans h.2.1, g.2.2.1.trans h.2.2.1, g.2.2.2.trans h.2.2.2⟩
/-- a row of no account -/
theorem kp_row {J : zJ} {a : Nat} {f : Int → Int} (h : ¬ (a = 0 ∨ a = 2 ∨ (5 ≤ a ∧ a ≤ 26) ∨ (49 ≤ a ∧ a ≤ 75) ∨ (103 ≤ a ∧ a ≤ 130) ∨ (132 ≤ a ∧ a ≤ 347) ∨ a = 353 ∨ a = 354 ∨ a = 355 ∨ a = 359 ∨ a = 360)) : kp J (jrow J a f) := by
  refine ⟨fun r hr => jrow_ne (by omega), ?_, ?_, ?_⟩ <;> rw [jrow_ne (by omega)]
theorem kp_thr {J : zJ} {v : Int} : kp J (jrow J 353 (sset (J 353) 0 v)) := by
  refine ⟨fun r hr => jrow_ne (by omega), ?_, ?_, ?_⟩ <;> rw [jrow_same, sset_ne (by decide)]
theorem kp_of {J J' : zJ} (h : ∀ r, (r = 3 ∨ r = 4 ∨ (27 ≤ r ∧ r ≤ 48) ∨ (76 ≤ r ∧ r ≤ 102) ∨ r = 131 ∨ (348 ≤ r ∧ r ≤ 352) ∨ r = 356 ∨ r = 357 ∨ r = 358 ∨ 361 ≤ r) ∨ J' r = J r ∨ r = 1) : kp J J' := by
  refine ⟨fun r hr => ?_, ?_, ?_, ?_⟩
  · rcases h r with h | h | h
    · omega
    · exact h
    · omega
  all_goals
    rcases h 353 with h | h | h
    · omega
    · rw [h]
    · omega
theorem GC_kp {J J' : zJ} (h : GC J J) (t : okK (J 355)) (k : kp J J') : GC J' J' := by
  obtain ⟨⟨h1, h2⟩, h3, h4, ⟨h5, h6, h7, h8⟩, h9, h10⟩ := h
  obtain ⟨k1, k2, k3, k4⟩ := k
  have e0 := k1 0 (by omega)
  have e2 := k1 2 (by omega)
  have e130 := k1 130 (by omega)
  have e354 := k1 354 (by omega)
  have e355 := k1 355 (by omega)
  have e359 := k1 359 (by omega)
  have e360 := k1 360 (by omega)
  have eh : ∀ e, hs J' e = hs J e := fun e => by unfold hs; rw [e359]
  refine ⟨⟨by rw [e0, k2]; exact h1, fun i i0 i1 => by rw [e2, e354]; exact h2 i i0 (by omega)⟩, ?_, ?_, ⟨by rw [e130, k3]; exact h5, by rw [e130]; exact h6, by rw [e130]; exact h7, fun e a b => ?_⟩, by rw [e0, k4]; exact h9, fun hq => ?_⟩
  · rw [e355]; exact RS_fr h3 (fun r a b => k1 r (by omega))
  · rw [e355]; exact RU_fr h4 t (fun r a b => k1 r (by omega))
  · rw [e130, eh]
    exact RS_fr (h8 e a (by omega)) (fun r a b => k1 r (by unfold hb at a b; omega))
  · rw [e360]
    exact RS_fr (h10 (by omega)) (fun r a b => k1 r (by omega))
theorem GT_kp {J J' : zJ} {k k' : Int} (h : GT k J) (p : kp J J') (hk : k ≤ k') : GT k' J' := by
  obtain ⟨⟨h1, h2, h3⟩, h4, h5, ⟨h6, h7, h8⟩, h9, h10⟩ := h
  obtain ⟨k1, k2, k3, k4⟩ := p
  have e354 := k1 354 (by omega)
  have e355 := k1 355 (by omega)
  have e359 := k1 359 (by omega)
  have e360 := k1 360 (by omega)
  have eh : ∀ e, hs J' e = hs J e := fun e => by unfold hs; rw [e359]
  refine ⟨⟨by omega, by omega, fun i i0 i1 => by rw [e354]; exact h3 i i0 (by omega)⟩, by rw [e355]; exact h4, by rw [e355]; exact okD_mono h5 (Int.le_refl _) hk, ⟨by omega, by omega, fun e a b => ?_⟩, by rw [k4]; exact h9, fun hq => ?_⟩
  · rw [e355, eh]
    obtain ⟨x, y⟩ := h8 e a (by omega)
    exact ⟨x, okD_mono y (Int.le_refl _) hk⟩
  · rw [e355, e360]
    obtain ⟨x, y⟩ := h10 (by omega)
    exact ⟨x, okD_mono y (Int.le_refl _) hk⟩
/-- the stock of the class as it stands -/
theorem GC_cx {J : zJ} {k : Int} (h : GC J J) (t : GT k J) (hk : k ≤ 30000) : CX J 49 (J 355) 365 k := ⟨zStk_49, h.2.1, h.2.2.1, t.2.1, t.2.2.1, by decide, hk⟩
/-- keep, and what the history is after it -/
theorem keep_ok {W : zW} {J : zJ} {k : Int} (g : GC J J) (t : GT k J) : ∃ J1, (∀ Q : zO → zI → Prop, wz W 15 0 [.ref 130, .ref 49, .float 0] [] (jm J) Q = Q oV (jm J1)) ∧ (∀ r, r ≠ 130 → (r < 132 ∨ 348 ≤ r) → J1 r = J r) ∧ ∀ T', hpush J T' (J 355) → (J1 130 2 = T' 353 15 ∧ 0 ≤ J1 130 1 ∧ J1 130 1 < 8 ∧ ∀ e, 0 ≤ e → e < T' 353 15 → RS J1 (hb (J1 130 1) e) (hs T' e)) := by
  obtain ⟨-, h3, h4, ⟨h5, h6, h7, h8⟩, -⟩ := g
  obtain ⟨-, t2, t3, ⟨t4, t5, t6⟩, -⟩ := t
  obtain ⟨a1, a2, a3, a4, a5, a6⟩ := t3.1
  obtain ⟨b1, b2, b3, b4, b5, b6, b7, b8, b9, b10, b11, b12⟩ := t2.1
  have hrun := fun Q => sp_15 (W := W) (J := J) (Q := Q) (q := 49) zStk_49 (by decide) h6 h7 (by omega) (by omega)
  refine ⟨_, hrun, fun r hr hr2 => ?_, fun T' hp => ?_⟩
  · rw [jrow_ne hr, cpyJ_fr r (by
      by_cases c : J 130 2 = 8
      · rw [if_pos c]; unfold hb; omega
      · rw [if_neg c]; unfold hb; omega), jrow_ne hr]
  · by_cases c : J 130 2 = 8
    · obtain ⟨p1, p2, p3⟩ := hp.1 (by omega)
      simp only [if_pos c]
      generalize hJ1 : jrow J 130 (sset (sset (J 130) 1 ((J 130 1 + 1) % 8)) 2 7) = J1
      have e1 : ∀ r, r ≠ 130 → J1 r = J r := fun r hr => by rw [← hJ1, jrow_ne hr]
      refine ⟨?_, ?_, ?_, fun e e0 e1' => ?_⟩
      · rw [jrow_same, sset_eq rfl, p1]; rfl
      · rw [jrow_same, sset_ne (by decide), sset_ne (by decide), sset_eq rfl]; omega
      · rw [jrow_same, sset_ne (by decide), sset_ne (by decide), sset_eq rfl]; omega
      · rw [jrow_same, sset_ne (by decide), sset_ne (by decide), sset_eq rfl]
        have hS1 : RS J1 49 (J 355) := RS_fr h3 (fun r a b => e1 r (by omega))
        by_cases ce : e = 7
        · rw [ce]
          have h9 : RS (cpyJ J1 (hb ((J 130 1 + 1) % 8) 7) 49) (hb ((J 130 1 + 1) % 8) 7) (J 355) := cpyJ_RS hS1 (by omega) (by omega) (by omega) (by omega)
          exact RS_eqS t2 (by omega) (by omega) (RS_fr h9 (fun r a b => jrow_ne (by unfold hb at a; omega))) p3
        · have eh : hb ((J 130 1 + 1) % 8) e = hb (J 130 1) (e + 1) := by unfold hb; omega
          rw [eh]
          obtain ⟨s1, s2⟩ := t6 (e + 1) (by omega) (by omega)
          obtain ⟨z1, z2, z3, z4, z5, z6⟩ := s2.1
          refine RS_eqS (okK_same t2 s1) (by omega) (by omega) (RS_fr (h8 (e + 1) (by omega) (by omega)) (fun r a b => ?_)) (p2 e e0 (by omega))
          rw [jrow_ne (by unfold hb at a; omega), cpyJ_fr r (by unfold hb at a b ⊢; omega), e1 r (by unfold hb at a; omega)]
    · obtain ⟨p1, p2, p3⟩ := hp.2 (by omega)
      simp only [if_neg c]
      rw [jrow_id]
      refine ⟨?_, ?_, ?_, fun e e0 e1' => ?_⟩
      · rw [jrow_same, sset_eq rfl, p1]; omega
      · rw [jrow_same, sset_ne (by decide)]; omega
      · rw [jrow_same, sset_ne (by decide)]; omega
      · rw [jrow_same, sset_ne (by decide)]
        by_cases ce : e = J 353 15
        · rw [ce, h5]
          have h9 : RS (cpyJ J (hb (J 130 1) (J 353 15)) 49) (hb (J 130 1) (J 353 15)) (J 355) := cpyJ_RS h3 (by omega) (by omega) (by omega) (by omega)
          exact RS_eqS t2 (by omega) (by omega) (RS_fr h9 (fun r a b => jrow_ne (by unfold hb at a; omega))) p3
        · obtain ⟨s1, s2⟩ := t6 e (by omega) (by omega)
          obtain ⟨z1, z2, z3, z4, z5, z6⟩ := s2.1
          refine RS_eqS (okK_same t2 s1) (by omega) (by omega) (RS_fr (h8 e (by omega) (by omega)) (fun r a b => ?_)) (p2 e e0 (by omega))
          rw [jrow_ne (by unfold hb at a; omega), cpyJ_fr r (by unfold hb at a b ⊢; omega)]
/-- a change, all of it -/
theorem chg_ok {J J1 J2 J3 : zJ} {k k' : Int} {t : Int → Int} (g : GC J J) (h : GT k J) (hk : k ≤ k')
    (q1 : ∀ r, r ≠ 130 → (r < 132 ∨ 348 ≤ r) → J1 r = J r) (q2 : ∀ T', hpush J T' (J 355) → (J1 130 2 = T' 353 15 ∧ 0 ≤ J1 130 1 ∧ J1 130 1 < 8 ∧ ∀ e, 0 ≤ e → e < T' 353 15 → RS J1 (hb (J1 130 1) e) (hs T' e)))
    (q3 : ∀ r, (r < 49 ∨ 76 ≤ r) → J2 r = J1 r) (q4 : RS J2 49 t)
    (q5 : ∀ r, r < 353 → J3 r = J2 r) (q6 : hpush J J3 (J 355)) (q7 : J3 355 = t) (q8 : J3 353 2 = J 353 2) (q9 : J3 353 17 = J 353 17) (q10 : J3 354 = J 354) (q11 : J3 360 = J 360) (q12 : same (J 355) t) (q13 : okD 365 k' t) : GC J3 J3 ∧ GT k' J3 := by
  obtain ⟨⟨g1, g2⟩, g3, g4, ⟨g5, g6, g7, g8⟩, g9, g10⟩ := g
  obtain ⟨⟨h1, h2, h3⟩, h4, h5, ⟨h6, h7, h8⟩, h9, h10⟩ := h
  have hfr : ∀ r, r ≠ 130 → (r < 49 ∨ (76 ≤ r ∧ r < 132) ∨ (348 ≤ r ∧ r < 353)) → J3 r = J r := fun r a b => by rw [q5 r (by omega), q3 r (by omega), q1 r a (by omega)]
  have e130 : J3 130 = J1 130 := by rw [q5 130 (by decide), q3 130 (by decide)]
  obtain ⟨p1, p2, p3, p4⟩ := q2 J3 q6
  have hht : ∀ e, 0 ≤ e → e < J3 353 15 → same (J 355) (hs J3 e) ∧ okD 365 k' (hs J3 e) := by
    intro e e0 e1
    by_cases c : J 353 15 = 8
    · obtain ⟨u1, u2, u3⟩ := q6.1 c
      by_cases ce : e = 7
      · rw [ce]
        exact ⟨same_eqS h4 u3, okD_mono (okD_eqS h4 h5 u3) (Int.le_refl _) hk⟩
      · obtain ⟨x, y⟩ := h8 (e + 1) (by omega) (by omega)
        have ue := u2 e e0 (by omega)
        have hKx := okK_same h4 x
        exact ⟨same_trans x (same_eqS hKx ue), okD_mono (okD_eqS hKx y ue) (Int.le_refl _) hk⟩
    · obtain ⟨u1, u2, u3⟩ := q6.2 c
      by_cases ce : e = J 353 15
      · rw [ce]
        exact ⟨same_eqS h4 u3, okD_mono (okD_eqS h4 h5 u3) (Int.le_refl _) hk⟩
      · obtain ⟨x, y⟩ := h8 e e0 (by omega)
        have ue := u2 e e0 (by omega)
        have hKx := okK_same h4 x
        exact ⟨same_trans x (same_eqS hKx ue), okD_mono (okD_eqS hKx y ue) (Int.le_refl _) hk⟩
  have h15 : 0 ≤ J3 353 15 ∧ J3 353 15 ≤ 8 := by
    by_cases c : J 353 15 = 8
    · rw [(q6.1 c).1]; decide
    · rw [(q6.2 c).1]; omega
  refine ⟨⟨⟨?_, fun i i0 i1 => ?_⟩, ?_, ?_, ⟨?_, ?_, ?_, fun e e0 e1 => ?_⟩, ?_, fun hq => ?_⟩, ⟨⟨?_, ?_, fun i i0 i1 => ?_⟩, ?_, ?_, ⟨h15.1, h15.2, fun e e0 e1 => ?_⟩, ?_, fun hq => ?_⟩⟩
  · rw [hfr 0 (by decide) (by decide), q8]; exact g1
  · rw [hfr 2 (by decide) (by decide), q10]; exact g2 i i0 (by omega)
  · rw [q7]; exact RS_fr q4 (fun r a b => q5 r (by omega))
  · rw [q7]; exact RU_same (RU_fr g4 h4 (fun r a b => hfr r (by omega) (by omega))) h4 q12
  · rw [e130]; exact p1
  · rw [e130]; exact p2
  · rw [e130]; exact p3
  · rw [e130]
    exact RS_fr (p4 e e0 e1) (fun r a b => by rw [q5 r (by unfold hb at b; omega), q3 r (by unfold hb at a; omega)])
  · rw [hfr 0 (by decide) (by decide), q9]; exact g9
  · rw [q11]
    exact RS_fr (g10 (by omega)) (fun r a b => hfr r (by omega) (by omega))
  · rw [q8]; exact h1
  · rw [q8]; exact h2
  · rw [q10]; exact h3 i i0 (by omega)
  · rw [q7]; exact okK_same h4 q12
  · rw [q7]; exact q13
  · rw [q7]
    obtain ⟨x, y⟩ := hht e e0 e1
    exact ⟨same_trans (same_symm q12) x, y⟩
  · rw [q9]; exact h9
  · rw [q7, q11]
    obtain ⟨x, y⟩ := h10 (by omega)
    exact ⟨same_trans (same_symm q12) x, okD_mono y (Int.le_refl _) hk⟩
/-- what a call and the reference's have to do with each other: hm are the exceptions in the order of the law's numbers -/
def mtc (hm : List Nat) (o : zO) (th v : Int) : Prop := (o = oI v ∧ th = 0) ∨ ∃ (i E : Nat), hm[i]? = some E ∧ o = oE E ∧ th = i + 1
/-- a call of the class, then one of the reference: they fit, and the memory is in order -/
def Op (W : zW) (k : Int) (hm : List Nat) (yC yR : Nat) (aC aR : List Value) : Prop := ∀ J, GC J J → GT k J → ∃ o J1 v J2, (∀ Q : zO → zI → Prop, wz W yC 0 aC [] (jm J) Q = Q o (jm J1)) ∧ (∀ Q : zO → zI → Prop, wz W yR 0 aR [] (jm J1) Q = Q (oI v) (jm J2)) ∧ GC J2 J2 ∧ GT (k + 42) J2 ∧ mtc hm o (J2 353 0) v
theorem Op.q {W : zW} {k : Int} {hm : List Nat} {yC yR : Nat} {aC aR : List Value} (h : ∀ J, GC J J → GT k J → ∃ o J1 v J2, (∀ Q : zO → zI → Prop, wz W yC 0 aC [] (jm J) Q = Q o (jm J1)) ∧ (∀ Q : zO → zI → Prop, wz W yR 0 aR [] (jm J1) Q = Q (oI v) (jm J2)) ∧ kp J J2 ∧ mtc hm o (J2 353 0) v) : Op W k hm yC yR aC aR := by
  intro J g t
  obtain ⟨o, J1, v, J2, h1, h2, h3, h4⟩ := h J g t
  exact ⟨o, J1, v, J2, h1, h2, GC_kp g t.2.1 h3, GT_kp t h3 (by omega), h4⟩
