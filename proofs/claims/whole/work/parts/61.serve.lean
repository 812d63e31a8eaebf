/-! ===== orders ===== -/
/-- is the pallet n to be taken instead of b -/
def nxB (s : Int → Int) (g b n : Int) : Bool := (decide (b = -1) || decide (s (72 + 7 * n + 1) < s (72 + 7 * b + 1))) && decide (s (72 + 7 * n) = g) && clv s n
def nxS (s : Int → Int) (g : Int) : Nat → Int
  | 0 => -1
  | n + 1 => if nxB s g (nxS s g n) n = true then n else nxS s g n
def nxP (s : Int → Int) (g : Int) : Int := nxS s g (s 6).toNat
theorem nxS_or (s : Int → Int) (g : Int) : ∀ n : Nat, nxS s g n = -1 ∨ (0 ≤ nxS s g n ∧ nxS s g n < n ∧ clv s (nxS s g n) = true) := by
  intro n
  induction n with
  | zero => exact Or.inl rfl
  | succ n ih =>
    unfold nxS
    by_cases c : nxB s g (nxS s g n) n = true
    · rw [if_pos c]
      refine Or.inr ⟨by omega, by omega, ?_⟩
      unfold nxB at c
      rw [Bool.and_eq_true] at c
      exact c.2
    · rw [if_neg c]
      rcases ih with h | ⟨h1, h2, h3⟩
      · exact Or.inl h
      · exact Or.inr ⟨h1, by omega, h3⟩
/-- the state without it -/
def svT (s : Int → Int) (p : Int) : Int → Int := if s (72 + 7 * p + 2) = 0 then fShipW s p 2 else fShipS s p 2
def svs (s : Int → Int) (g : Int) : Nat → Int → Int
  | 0 => s
  | n + 1 => if nxP (svs s g n) g = -1 then svs s g n else svT (svs s g n) (nxP (svs s g n) g)
def frS (s : Int → Int) (g : Int) : Nat → Int
  | 0 => 0
  | n + 1 => frS s g n + (if nxP (svs s g n) g = -1 ∨ svs s g n (72 + 7 * nxP (svs s g n) g + 2) = 0 then 0 else 1)
/-- how many, of m more, n being taken -/
def svf (s : Int → Int) (g : Int) : Nat → Nat → Nat
  | 0, n => n
  | m + 1, n => if nxP (svs s g n) g = -1 then n else svf s g m (n + 1)
theorem svf_le (s : Int → Int) (g : Int) : ∀ (m n : Nat), n ≤ svf s g m n ∧ svf s g m n ≤ n + m := by
  intro m
  induction m with
  | zero => intro n; exact ⟨Nat.le_refl _, Nat.le_refl _⟩
  | succ m ih =>
    intro n
    unfold svf
    have := ih (n + 1)
    split <;> omega
section
variable {k D : Int} {s : Int → Int}
theorem clv_st {p : Int} (hD : okD D k s) (p0 : 0 ≤ p) (p1 : p < s 6) (h : clv s p = true) : (s (72 + 7 * p + 2) = 0 ∨ s (72 + 7 * p + 2) = 1) ∧ spo s p = false ∧ (s (72 + 7 * p + 2) = 0 ∨ wayC s (s (72 + 7 * p + 3) / 24) (s (72 + 7 * p + 3) % 24) ≠ -1) := by
  obtain ⟨-, -, -, hP, -⟩ := hD
  obtain ⟨q1, q2, q3, q4, q5, q6, -⟩ := hP p p0 p1
  unfold clv thr at h
  rw [Bool.and_eq_true, Bool.and_eq_true, Bool.or_eq_true, decide_eq_true_eq, decide_eq_true_eq, decide_eq_true_eq, Bool.not_eq_true'] at h
  exact ⟨by omega, h.1.2, h.2⟩
theorem svT_at (hK : okK s) (hD : okD D k s) {p : Int} (p0 : 0 ≤ p) (p1 : p < s 6) (h : s (72 + 7 * p + 2) = 0 ∨ s (72 + 7 * p + 2) = 1) : svT s p 6 = s 6 ∧ ∀ q, 0 ≤ q → q < 40 → svT s p (72 + 7 * q + 2) = if q = p then 2 else s (72 + 7 * q + 2) := by
  obtain ⟨⟨a1, a2, a3, a4, a5, a6⟩, hT, hV, hP, hW, hL, hQ, hN⟩ := hD
  obtain ⟨b1, b2x, b3, b4, b5, b6, b7, b8, b9, b10, b11, b12⟩ := hK.1
  have hg : ∀ (f : Int → Int) (j : Int), j ≠ 9 → fGoes f p 2 j = if j = 72 + 7 * p + 2 then 2 else if j = 72 + 7 * p + 6 then f 0 else f j := by
    intro f j h9
    unfold fGoes
    rw [if_pos rfl, sset_ne h9]
    by_cases c : j = 72 + 7 * p + 2
    · rw [if_pos c, sset_ne (by omega), sset_eq c]
    · rw [if_neg c]
      by_cases c2 : j = 72 + 7 * p + 6
      · rw [if_pos c2, sset_eq c2]
      · rw [if_neg c2, sset_ne c2, sset_ne c]
  unfold svT
  by_cases c : s (72 + 7 * p + 2) = 0
  · rw [if_pos c]
    unfold fShipW
    refine ⟨?_, fun q q0 q1 => ?_⟩
    · rw [hg _ _ (by decide), if_neg (by omega), if_neg (by omega), fLv_ne a6 (by omega)]
    · rw [hg _ _ (by omega)]
      by_cases e : q = p
      · rw [if_pos (by rw [e]), if_pos e]
      · rw [if_neg (by omega), if_neg (by omega), if_neg e, fLv_ne a6 (by omega)]
  · rw [if_neg c]
    have c1 : s (72 + 7 * p + 2) = 1 := by omega
    obtain ⟨x0, x1, x2, x3⟩ := st_wh hK hW p0 p1 c1
    unfold fShipS
    have hf : fOpen s (s (72 + 7 * p + 3) / 24) (72 + 7 * p + 3) = s (72 + 7 * p + 3) := by unfold fOpen; exact sset_ne (by omega)
    have ht : ∀ j, j ≠ 72 + 7 * p + 3 → j < 400 → j ≠ 12 + 8 * (s (72 + 7 * p + 3) / 24) + 5 → fTake (fOpen s (s (72 + 7 * p + 3) / 24)) p j = s j := by
      intro j h1 h2 h3
      unfold fTake
      rw [hf, sset_ne h1, sset_ne (by omega)]
      unfold fOpen
      exact sset_ne h3
    refine ⟨?_, fun q q0 q1 => ?_⟩
    · rw [hg _ _ (by decide), if_neg (by omega), if_neg (by omega), ht 6 (by omega) (by omega) (by omega)]
    · rw [hg _ _ (by omega)]
      by_cases e : q = p
      · rw [if_pos (by rw [e]), if_pos e]
      · rw [if_neg (by omega), if_neg (by omega), if_neg e, ht _ (by omega) (by omega) (by omega)]
theorem svT_ok (hK : okK s) (hD : okD D k s) {p : Int} (p0 : 0 ≤ p) (p1 : p < s 6) (h : s (72 + 7 * p + 2) = 0 ∨ s (72 + 7 * p + 2) = 1) : same s (svT s p) ∧ okD D (k + 1) (svT s p) := by
  unfold svT
  by_cases c : s (72 + 7 * p + 2) = 0
  · rw [if_pos c]
    obtain ⟨x, y⟩ := shipW_ok hK hD p0 p1 c (how := 2) (Or.inl rfl)
    exact ⟨x, okD_mono y (Int.le_refl _) (by omega)⟩
  · rw [if_neg c]
    exact shipS_ok hK hD p0 p1 (by omega) (Or.inl rfl)
theorem svs_ok (hK : okK s) (hD : okD D k s) (g : Int) : ∀ n : Nat, same s (svs s g n) ∧ okD D (k + n) (svs s g n) ∧ svs s g n 6 = s 6 ∧ (cntS s 1 (s 6).toNat : Int) = cntS (svs s g n) 1 (s 6).toNat + frS s g n := by
  intro n
  induction n with
  | zero => exact ⟨same_refl s, okD_mono hD (Int.le_refl _) (by omega), rfl, by show (_ : Int) = _ + (0 : Int); rw [Int.add_zero]; rfl⟩
  | succ n ih =>
    obtain ⟨h1, h2, h3, h4⟩ := ih
    have hK' := okK_same hK h1
    by_cases c : nxP (svs s g n) g = -1
    · have e : svs s g (n + 1) = svs s g n := by show (if _ then _ else _) = _; rw [if_pos c]
      have e2 : frS s g (n + 1) = frS s g n := by show _ + (if _ then _ else _) = _; rw [if_pos (Or.inl c), Int.add_zero]
      rw [e, e2]
      exact ⟨h1, okD_mono h2 (Int.le_refl _) (by omega), h3, h4⟩
    · have e : svs s g (n + 1) = svT (svs s g n) (nxP (svs s g n) g) := by show (if _ then _ else _) = _; rw [if_neg c]
      rcases nxS_or (svs s g n) g (svs s g n 6).toNat with h | ⟨p0, p1, p2⟩
      · exact absurd h c
      · have hp : nxS (svs s g n) g (svs s g n 6).toNat = nxP (svs s g n) g := rfl
        rw [hp] at p0 p1 p2
        have a3 := h2.1.2.2.1
        have a4 := h2.1.2.2.2.1
        have p1' : nxP (svs s g n) g < svs s g n 6 := by omega
        obtain ⟨st, -, -⟩ := clv_st h2 p0 p1' p2
        obtain ⟨k1, k2⟩ := svT_ok hK' h2 p0 p1' st
        obtain ⟨k3, k4⟩ := svT_at hK' h2 p0 p1' st
        rw [e]
        refine ⟨same_trans h1 k1, okD_mono k2 (Int.le_refl _) (by omega), k3.trans h3, ?_⟩
        have e2 : frS s g (n + 1) = frS s g n + (if nxP (svs s g n) g = -1 ∨ svs s g n (72 + 7 * nxP (svs s g n) g + 2) = 0 then 0 else 1) := rfl
        rw [e2, h4]
        by_cases c2 : svs s g n (72 + 7 * nxP (svs s g n) g + 2) = 0
        · rw [if_pos (Or.inr c2), Int.add_zero]
          have := cntS_cg (s := svs s g n) (t := svT (svs s g n) (nxP (svs s g n) g)) (st := 1) (s 6).toNat (fun q q0 q1 => by
            rw [k4 q q0 (by omega)]
            by_cases e : q = nxP (svs s g n) g
            · rw [if_pos e, e, c2]; omega
            · rw [if_neg e])
          omega
        · rw [if_neg (by omega)]
          have := cntS_up (s := svT (svs s g n) (nxP (svs s g n) g)) (t := svs s g n) (st := 1) (p := nxP (svs s g n) g) (s 6).toNat p0 (by omega) (by rw [k4 _ p0 (by omega), if_pos rfl]; decide) (by omega) (fun q q0 q1 hq => by
            rw [k4 q q0 (by omega), if_neg hq])
          omega
end
section
variable {W : zW} {J : zJ} {Q : zO → zI → Prop} {k D : Int} {s : Int → Int}
theorem CX_nx {J' : zJ} {t : Int → Int} {k' : Int} (h : CX J 76 s D k) (hS : RS J' 76 t) (hf : ∀ r, (r < 76 ∨ 76 + 27 ≤ r) → J' r = J r) (h1 : same s t) (h2 : okD D k' t) (hk : k' ≤ 30000) : CX J' 76 t D k' := ⟨h.1, hS, RU_same (RU_fr h.2.2.1 h.2.2.2.1 (fun r a b => hf r (by omega))) h.2.2.2.1 h1, okK_same h.2.2.2.1 h1, h2, h.2.2.2.2.2.1, hk⟩
/-- the class's next one -/
theorem sp_173 (h : CX J 76 s D k) {g : Int} (g0 : 0 ≤ g) (g1 : g < 6) : wz W 173 0 [.ref 0, .int (jI g), .float 0, .float 0, .float 0] [] (jm J) Q = Q (oI (nxP s g)) (jm J) := by
  have h' := h
  obtain ⟨hb, hS, hU, hK, ⟨⟨a1, a2, a3, a4, a5, a6⟩, hT, hV, hP, hW, hL, hQ, hN⟩, hD, hk⟩ := h
  obtain ⟨b1, b2x, b3, b4, b5, b6, b7, b8, b9, b10, b11, b12⟩ := hK.1
  have h2 : jm J 76 2 = jI (s 6) := congrArg jI hS.2.1
  have key : ∀ m : Nat, m ≤ (s 6).toNat → ∀ x4 : Value, wz W 173 4 [.ref 0, .int (jI g), .int (jI (nxS s g ((s 6).toNat - m))), .int (jI ((s 6).toNat - m : Nat)), x4] [] (jm J) Q = Q (oI (nxP s g)) (jm J) := by
    intro m
    induction m with
    | zero =>
      intro _ x4
      rw [sg_173_4, h2, if_pos (by rw [jI_le (by omega) (by omega) (by omega) (by omega)]; omega)]
      rfl
    | succ m ih =>
      intro hm x4
      have ih := ih (by omega)
      have hl : (s 6).toNat - m = ((s 6).toNat - (m + 1)) + 1 := by omega
      rw [hl] at ih
      have hi : ((s 6).toNat - (m + 1) : Nat) < (s 6).toNat := by omega
      generalize (s 6).toNat - (m + 1) = i at *
      have hst : nxS s g (i + 1) = if nxB s g (nxS s g i) i = true then (i : Int) else nxS s g i := rfl
      have hor := nxS_or s g i
      generalize nxS s g i = b at *
      obtain ⟨e1, e2, e3, e4, e5, -⟩ := RS_p hS (p := i) (by omega) (by omega)
      obtain ⟨q1, q2, q3, q4, q5, q6, q7, q8, q9, q10, q11⟩ := hP i (by omega) (by omega)
      have back : ∀ x4 : Int32, nxS s g (i + 1) = b → wz W 173 85 [.ref 0, .int (jI g), .int (jI b), .int (jI i), .int x4] [] (jm J) Q = Q (oI (nxP s g)) (jm J) := by
        intro x4 hb9
        rw [sg_173_85, jI_add]
        rw [hb9] at ih
        exact ih _
      have test : ∀ x4 : Value, (b = -1 ∨ s (72 + 7 * (i : Int) + 1) < s (72 + 7 * b + 1)) → wz W 173 45 [.ref 0, .int (jI g), .int (jI b), .int (jI i), x4] [] (jm J) Q = Q (oI (nxP s g)) (jm J) := by
        intro x4 hlt
        have hne : nxB s g b i = (decide (s (72 + 7 * (i : Int)) = g) && clv s i) := by
          unfold nxB
          rcases hlt with h | h
          · rw [decide_eq_true h, Bool.true_or, Bool.true_and]
          · rw [decide_eq_true h, Bool.or_true, Bool.true_and]
        rw [sg_173_45, sg_173_50, if_neg (by decide), sp_45 (zStk_r3 hb) (by omega) (by omega) (by decide), e1]
        simp only [zk_l, zk_r, Option.toList_some, Option.toList_none, List.cons_append, List.nil_append, zrokB, zrokB0, zrokB1, zrokJ0, zrokJ1, and_true, true_and, and_self, if_true, if_false, b2_0, b2_1, b2_not, ite_self]
        rw [sg_173_68]
        by_cases f : s (72 + 7 * (i : Int)) = g
        · rw [if_pos (by rw [f]), sp_75 h' (by omega) (by omega)]
          simp only [zk_l, zk_r, Option.toList_some, Option.toList_none, List.cons_append, List.nil_append, zrokB, zrokB0, zrokB1, zrokJ0, zrokJ1, and_true, true_and, and_self, if_true, if_false, b2_0, b2_1, b2_not, ite_self]
          rw [sg_173_80]
          rw [decide_eq_true f, Bool.true_and] at hne
          cases hcl : clv s i
          · rw [if_pos (by decide)]
            exact back _ (by rw [hst, hne, hcl, if_neg (by decide)])
          · rw [if_neg (by decide), sg_173_85, jI_add]
            rw [hst, hne, hcl, if_pos rfl] at ih
            exact ih _
        · rw [if_neg (by rw [jI_eq (by omega) (by omega) (by omega) (by omega)]; exact f)]
          exact back _ (by rw [hst, hne, decide_eq_false f, Bool.false_and, if_neg (by decide)])
      rw [sg_173_4, h2, if_neg (by rw [jI_le (by omega) (by omega) (by omega) (by omega)]; omega)]
      by_cases f : b = -1
      · rw [if_pos (by rw [f])]
        exact test _ (Or.inl f)
      · obtain ⟨r1, r2⟩ : 0 ≤ b ∧ b < i := by omega
        obtain ⟨f1, f2, f3, f4, f5, -⟩ := RS_p hS (p := b) (by omega) (by omega)
        obtain ⟨w1, w2, w3, w4, w5, w6, w7, w8, w9, w10, w11⟩ := hP b (by omega) (by omega)
        rw [if_neg (by rw [jI_eq (by omega) (by omega) (by omega) (by omega)]; exact f), sp_45 (zStk_r7 hb) (by omega) (by omega) (by decide), e5]
        simp only [zk_l, zk_r, Option.toList_some, Option.toList_none, List.cons_append, List.nil_append, zrokB, zrokB0, zrokB1, zrokJ0, zrokJ1, and_true, true_and, and_self, if_true, if_false, b2_0, b2_1, b2_not, ite_self]
        rw [sg_173_31, sp_45 (zStk_r7 hb) (by omega) (by omega) (by decide), f5]
        simp only [zk_l, zk_r, Option.toList_some, Option.toList_none, List.cons_append, List.nil_append, zrokB, zrokB0, zrokB1, zrokJ0, zrokJ1, and_true, true_and, and_self, if_true, if_false, b2_0, b2_1, b2_not, ite_self]
        rw [sg_173_42]
        by_cases f6 : s (72 + 7 * b + 1) ≤ s (72 + 7 * (i : Int) + 1)
        · rw [if_pos (by rw [jI_le (by omega) (by omega) (by omega) (by omega)]; exact f6), sg_173_50, if_pos (by decide)]
          refine back _ ?_
          rw [hst, if_neg]
          unfold nxB
          rw [decide_eq_false f, decide_eq_false (by omega)]
          simp
        · rw [if_neg (by rw [jI_le (by omega) (by omega) (by omega) (by omega)]; exact f6)]
          exact test _ (Or.inr (by omega))
  rw [sg_173_0]
  have h0 := key (s 6).toNat (Nat.le_refl _) (.float 0)
  rw [Nat.sub_self] at h0
  exact h0
/-- taking of them, the class -/
theorem sp_172 (h0 : CX J 76 s D k) {g : Int} (g0 : 0 ≤ g) (g1 : g < 6) (hk : k + 40 ≤ 30000) : ∀ (m n : Nat), n + m ≤ 40 → ∀ (J : zJ), CX J 76 (svs s g n) D (k + n) → ∃ J', (∀ (x4 : Value) (Q : zO → zI → Prop), wz W 172 2 [.ref 0, .int (jI g), .int (jI (n + m : Nat)), .int (jI n), x4] [] (jm J) Q = Q (oI (svf s g m n)) (jm J')) ∧ RS J' 76 (svs s g (svf s g m n)) ∧ ∀ r, (r < 76 ∨ 76 + 27 ≤ r) → J' r = J r := by
  intro m
  induction m with
  | zero =>
    intro n hn J hx
    refine ⟨J, fun x4 Q => ?_, hx.2.1, fun r hr => rfl⟩
    rw [sg_172_2, if_pos (by rw [jI_le (by omega) (by omega) (by omega) (by omega)]; omega)]
    rfl
  | succ m ih =>
    intro n hn J hx
    have hrun : ∀ (x4 : Value) (Q : zO → zI → Prop), wz W 172 2 [.ref 0, .int (jI g), .int (jI (n + (m + 1) : Nat)), .int (jI n), x4] [] (jm J) Q = wz W 172 12 [.ref 0, .int (jI g), .int (jI (n + (m + 1) : Nat)), .int (jI n), x4] [.int (jI (nxP (svs s g n) g))] (jm J) Q := by
      intro x4 Q
      rw [sg_172_2, if_neg (by rw [jI_le (by omega) (by omega) (by omega) (by omega)]; omega), sp_173 hx g0 g1]
      simp only [zk_l, zk_r, Option.toList_some, Option.toList_none, List.cons_append, List.nil_append, zrokB, zrokB0, zrokB1, zrokJ0, zrokJ1, and_true, true_and, and_self, if_true, if_false, b2_0, b2_1, b2_not, ite_self]
    obtain ⟨v1, v2, v3, v4⟩ := svs_ok h0.2.2.2.1 h0.2.2.2.2.1 g n
    have a4 := v2.1.2.2.2.1
    have a3 := v2.1.2.2.1
    have hor := nxS_or (svs s g n) g (svs s g n 6).toNat
    have hp : nxS (svs s g n) g (svs s g n 6).toNat = nxP (svs s g n) g := rfl
    rw [hp] at hor
    by_cases c : nxP (svs s g n) g = -1
    · have e : svf s g (m + 1) n = n := by show (if _ then _ else _) = _; rw [if_pos c]
      rw [e]
      refine ⟨J, fun x4 Q => ?_, hx.2.1, fun r hr => rfl⟩
      rw [hrun, sg_172_12, if_pos (by rw [c])]
    · have e : svf s g (m + 1) n = svf s g m (n + 1) := by show (if _ then _ else _) = _; rw [if_neg c]
      have e2 : svs s g (n + 1) = svT (svs s g n) (nxP (svs s g n) g) := by show (if _ then _ else _) = _; rw [if_neg c]
      obtain ⟨p0, p1, p2⟩ : 0 ≤ nxP (svs s g n) g ∧ nxP (svs s g n) g < (svs s g n 6).toNat ∧ clv (svs s g n) (nxP (svs s g n) g) = true := by
        rcases hor with h | h
        · exact absurd h c
        · exact h
      have p1' : nxP (svs s g n) g < svs s g n 6 := by omega
      obtain ⟨st, -, -⟩ := clv_st v2 p0 p1' p2
      have hship : ∃ J1, (∀ Q : zO → zI → Prop, wz W 69 0 [.ref 76, .int (jI (nxP (svs s g n) g)), .int (jI 2)] [] (jm J) Q = Q oV (jm J1)) ∧ RS J1 76 (svs s g (n + 1)) ∧ ∀ r, (r < 76 ∨ 76 + 27 ≤ r) → J1 r = J r := by
        rw [e2]
        unfold svT
        by_cases c2 : svs s g n (72 + 7 * nxP (svs s g n) g + 2) = 0
        · rw [if_pos c2]
          exact sp_69w hx p0 p1' c2 (Or.inl rfl)
        · rw [if_neg c2]
          exact sp_69s hx p0 p1' (by omega) (Or.inl rfl)
      obtain ⟨J1, r1, r2, r3⟩ := hship
      obtain ⟨w1, w2, w3, w4⟩ := svs_ok h0.2.2.2.1 h0.2.2.2.2.1 g (n + 1)
      obtain ⟨J2, s1, s2, s3⟩ := ih (n + 1) (by omega) J1 (CX_nx hx r2 r3 (same_trans (same_symm v1) w1) w2 (by omega))
      rw [e]
      refine ⟨J2, fun x4 Q => ?_, s2, fun r hr => by rw [s3 r hr, r3 r hr]⟩
      rw [hrun, sg_172_12, if_neg (by rw [jI_eq (by omega) (by omega) (by omega) (by omega)]; exact c), r1]
      simp only [zk_l, zk_r, Option.toList_some, Option.toList_none, List.cons_append, List.nil_append, zrokB, zrokB0, zrokB1, zrokJ0, zrokJ1, and_true, true_and, and_self, if_true, if_false, b2_0, b2_1, b2_not, ite_self]
      rw [sg_172_32, jI_add]
      have := s1 (.int (jI (nxP (svs s g n) g))) Q
      rw [show n + 1 + m = n + (m + 1) by omega] at this
      exact this
/-! the reference -/
def sM (J0 J' : zJ) (t : Int → Int) (f : Int) : Prop := J' 355 = t ∧ J' 353 18 = f ∧ (∀ i, i ≠ 18 → J' 353 i = J0 353 i) ∧ ∀ r, r ≠ 353 → r ≠ 355 → r ≠ 358 → J' r = J0 r
theorem sp_256 (hK : okK (J 355)) (hD : okD D k (J 355)) (hD5 : D ≤ 500) {g : Int} (g0 : 0 ≤ g) (g1 : g < 6) : ∃ J', (∀ Q : zO → zI → Prop, wz W 256 0 [.ref 353, .int (jI g), .float 0, .float 0, .float 0] [] (jm J) Q = Q (oI (nxP (J 355) g)) (jm J')) ∧ sM J J' (if nxP (J 355) g = -1 then J 355 else svT (J 355) (nxP (J 355) g)) (J 353 18 + (if nxP (J 355) g = -1 ∨ J 355 (72 + 7 * nxP (J 355) g + 2) = 0 then 0 else 1)) := by
  have hDD := hD
  obtain ⟨⟨a1, a2, a3, a4, a5, a6⟩, hT, hV, hP, hW, hL, hQ, hN⟩ := hD
  obtain ⟨b1, b2x, b3, b4, b5, b6, b7, b8, b9, b10, b11, b12⟩ := hK.1
  have e55 : ∀ x, jrow J 358 x 355 = J 355 := fun x => jrow_ne (by decide)
  have key : ∀ m : Nat, m ≤ (J 355 6).toNat → ∀ (x4 : Value) (x : Int → Int), ∃ x4' x', ∀ Q : zO → zI → Prop, wz W 256 4 [.ref 353, .int (jI g), .int (jI (nxS (J 355) g ((J 355 6).toNat - m))), .int (jI ((J 355 6).toNat - m : Nat)), x4] [] (jm (jrow J 358 x)) Q = wz W 256 4 [.ref 353, .int (jI g), .int (jI (nxP (J 355) g)), .int (jI (J 355 6)), x4'] [] (jm (jrow J 358 x')) Q := by
    intro m
    induction m with
    | zero =>
      intro _ x4 x
      refine ⟨x4, x, fun Q => ?_⟩
      rw [Nat.sub_zero, Int.toNat_of_nonneg a3]
      rfl
    | succ m ih =>
      intro hm x4 x
      have ih := ih (by omega)
      have hl : (J 355 6).toNat - m = ((J 355 6).toNat - (m + 1)) + 1 := by omega
      rw [hl] at ih
      have hi : ((J 355 6).toNat - (m + 1) : Nat) < (J 355 6).toNat := by omega
      generalize (J 355 6).toNat - (m + 1) = i at *
      have hst : nxS (J 355) g (i + 1) = if nxB (J 355) g (nxS (J 355) g i) i = true then (i : Int) else nxS (J 355) g i := rfl
      have hor := nxS_or (J 355) g i
      generalize nxS (J 355) g i = b at *
      obtain ⟨q1, q2, q3, q4, q5, q6, q7, q8, q9, q10, q11⟩ := hP i (by omega) (by omega)
      -- the first part
      have first : ∀ Q : zO → zI → Prop, wz W 256 4 [.ref 353, .int (jI g), .int (jI b), .int (jI i), x4] [] (jm (jrow J 358 x)) Q = wz W 256 71 [.ref 353, .int (jI g), .int (jI b), .int (jI i), x4] [.int (b2 ((decide (b = -1) || decide (J 355 (72 + 7 * (i : Int) + 1) < J 355 (72 + 7 * b + 1))) && decide (J 355 (72 + 7 * (i : Int)) = g) && (thr (J 355) i && !(spo (J 355) i))))] (jm (jrow J 358 x)) Q := by
        intro Q
        rw [sg_256_4]
        simp (disch := first | assumption | omega) only [e55, zk_l, zk_r, Option.toList_some, Option.toList_none, List.cons_append, List.nil_append, zrokB, zrokB0, zrokB1, zrokJ0, zrokJ1, and_true, true_and, and_self, if_true, if_false, b2_0, b2_1, b2_not, ite_self, Int.add_zero, jI_nat, jI_add, jI_sub, jI_mul, jI_neg, jI_lt, jI_le, jI_eq, jI_lt0, jI_0lt, jI_le0, jI_0le, jI_eq0, jI_in, jI_dv, i_mod, jI_cl, jm_n, jz_n, i_lit, i_c0, i_c1, Int.toNat_of_nonneg, Int.toNat_natCast, jrow_same, jrow_ne, jrow_jrow, sset_eq, sset_ne]
        rw [if_neg (by omega), sp_221 (c := (i : Int)) (k := 0) (by omega) (by omega) (by omega), e55]
        simp only [Int.add_zero, zk_l, zk_r, Option.toList_some, Option.toList_none, List.cons_append, List.nil_append, zrokB, zrokB0, zrokB1, zrokJ0, zrokJ1, and_true, true_and, and_self, if_true, if_false, b2_0, b2_1, b2_not, ite_self]
        rw [sg_256_21]
        by_cases f1 : J 355 (72 + 7 * (i : Int)) = g
        · rw [if_pos (by rw [f1]), sp_221 (c := (i : Int)) (k := 2) (by omega) (by omega) (by omega), e55, decide_eq_true f1, Bool.and_true]
          simp only [zk_l, zk_r, Option.toList_some, Option.toList_none, List.cons_append, List.nil_append, zrokB, zrokB0, zrokB1, zrokJ0, zrokJ1, and_true, true_and, and_self, if_true, if_false, b2_0, b2_1, b2_not, ite_self]
          rw [sg_256_31]
          unfold thr
          by_cases f2 : J 355 (72 + 7 * (i : Int) + 2) ≤ 1
          · rw [if_neg (by rw [jI_lt (by omega) (by omega) (by omega) (by omega)]; omega), sp_236 (D := D) (k := k) za_355 (by rw [e55]; exact hK) (by rw [e55]; exact hDD) hD5 (by omega) (by rw [e55]; omega), e55, decide_eq_true f2, Bool.true_and]
            simp only [zk_l, zk_r, Option.toList_some, Option.toList_none, List.cons_append, List.nil_append, zrokB, zrokB0, zrokB1, zrokJ0, zrokJ1, and_true, true_and, and_self, if_true, if_false, b2_0, b2_1, b2_not, ite_self]
            rw [sg_256_43]
            cases spo (J 355) i
            · rw [if_pos (by decide)]
              by_cases f3 : b = -1
              · rw [if_pos (by rw [f3]), sg_256_66, decide_eq_true f3]; rfl
              · obtain ⟨r1, r2⟩ : 0 ≤ b ∧ b < i := by omega
                obtain ⟨w1, w2, w3, w4, w5, w6, w7, w8, w9, w10, w11⟩ := hP b (by omega) (by omega)
                rw [if_neg (by rw [jI_eq (by omega) (by omega) (by omega) (by omega)]; exact f3), sp_221 (c := (i : Int)) (k := 1) (by omega) (by omega) (by omega), e55]
                simp only [zk_l, zk_r, Option.toList_some, Option.toList_none, List.cons_append, List.nil_append, zrokB, zrokB0, zrokB1, zrokJ0, zrokJ1, and_true, true_and, and_self, if_true, if_false, b2_0, b2_1, b2_not, ite_self]
                rw [sg_256_57, sp_221 (c := b) (k := 1) (by omega) (by omega) (by omega), e55]
                simp only [zk_l, zk_r, Option.toList_some, Option.toList_none, List.cons_append, List.nil_append, zrokB, zrokB0, zrokB1, zrokJ0, zrokJ1, and_true, true_and, and_self, if_true, if_false, b2_0, b2_1, b2_not, ite_self]
                rw [sg_256_63, decide_eq_false f3, Bool.false_or]
                by_cases f4 : J 355 (72 + 7 * b + 1) ≤ J 355 (72 + 7 * (i : Int) + 1)
                · rw [if_pos (by rw [jI_le (by omega) (by omega) (by omega) (by omega)]; exact f4), sg_256_70, decide_eq_false (by omega)]; rfl
                · rw [if_neg (by rw [jI_le (by omega) (by omega) (by omega) (by omega)]; exact f4), sg_256_66, decide_eq_true (by omega)]; rfl
            · rw [if_neg (by decide), sg_256_70, Bool.not_true, Bool.and_false]; rfl
          · rw [if_pos (by rw [jI_lt (by omega) (by omega) (by omega) (by omega)]; omega), sg_256_70, decide_eq_false f2, Bool.false_and, Bool.and_false]; rfl
        · rw [if_neg (by rw [jI_eq (by omega) (by omega) (by omega) (by omega)]; exact f1), sg_256_70, decide_eq_false f1, Bool.and_false, Bool.false_and]; rfl
      have back : ∀ (x4 : Int32) (x : Int → Int), nxS (J 355) g (i + 1) = b → ∃ x4' x', ∀ Q : zO → zI → Prop, wz W 256 98 [.ref 353, .int (jI g), .int (jI b), .int (jI i), .int x4] [] (jm (jrow J 358 x)) Q = wz W 256 4 [.ref 353, .int (jI g), .int (jI (nxP (J 355) g)), .int (jI (J 355 6)), x4'] [] (jm (jrow J 358 x')) Q := by
        intro x4 x hb9
        rw [hb9] at ih
        obtain ⟨y4, y, hy⟩ := ih (.int x4) x
        refine ⟨y4, y, fun Q => ?_⟩
        rw [sg_256_98, jI_add]
        exact hy Q
      have take : ∀ (x4 : Int32) (x : Int → Int), nxS (J 355) g (i + 1) = i → ∃ x4' x', ∀ Q : zO → zI → Prop, wz W 256 96 [.ref 353, .int (jI g), .int (jI b), .int (jI i), .int x4] [] (jm (jrow J 358 x)) Q = wz W 256 4 [.ref 353, .int (jI g), .int (jI (nxP (J 355) g)), .int (jI (J 355 6)), x4'] [] (jm (jrow J 358 x')) Q := by
        intro x4 x hb9
        rw [hb9] at ih
        obtain ⟨y4, y, hy⟩ := ih (.int x4) x
        refine ⟨y4, y, fun Q => ?_⟩
        rw [sg_256_96, sg_256_98, jI_add]
        exact hy Q
      have hnb : nxB (J 355) g b i = ((decide (b = -1) || decide (J 355 (72 + 7 * (i : Int) + 1) < J 355 (72 + 7 * b + 1))) && decide (J 355 (72 + 7 * (i : Int)) = g) && (thr (J 355) i && !(spo (J 355) i)) && (decide (J 355 (72 + 7 * (i : Int) + 2) = 0) || decide (wayC (J 355) (J 355 (72 + 7 * (i : Int) + 3) / 24) (J 355 (72 + 7 * (i : Int) + 3) % 24) ≠ -1))) := by
        unfold nxB clv
        simp only [Bool.and_assoc]
      cases hc1 : ((decide (b = -1) || decide (J 355 (72 + 7 * (i : Int) + 1) < J 355 (72 + 7 * b + 1))) && decide (J 355 (72 + 7 * (i : Int)) = g) && (thr (J 355) i && !(spo (J 355) i)))
      · rw [hc1, Bool.false_and] at hnb
        obtain ⟨y4, y, hy⟩ := back (b2 false) x (by rw [hst, hnb, if_neg (by decide)])
        refine ⟨y4, y, fun Q => ?_⟩
        rw [first, hc1, sg_256_71, if_pos (by decide)]
        exact hy Q
      · rw [hc1, Bool.true_and] at hnb
        have hth : J 355 (72 + 7 * (i : Int) + 2) ≤ 1 := by
          rw [Bool.and_eq_true, Bool.and_eq_true] at hc1
          have h9 := hc1.2
          rw [Bool.and_eq_true] at h9
          exact of_decide_eq_true h9.1
        by_cases f : J 355 (72 + 7 * (i : Int) + 2) = 0
        · rw [decide_eq_true f, Bool.true_or] at hnb
          obtain ⟨y4, y, hy⟩ := take (b2 true) x (by rw [hst, hnb, if_pos rfl])
          refine ⟨y4, y, fun Q => ?_⟩
          rw [first, hc1, sg_256_71, if_neg (by decide), sp_221 (c := (i : Int)) (k := 2) (by omega) (by omega) (by omega), e55]
          simp only [zk_l, zk_r, Option.toList_some, Option.toList_none, List.cons_append, List.nil_append, zrokB, zrokB0, zrokB1, zrokJ0, zrokJ1, and_true, true_and, and_self, if_true, if_false, b2_0, b2_1, b2_not, ite_self]
          rw [sg_256_84, if_pos (by rw [f]; rfl)]
          exact hy Q
        · have f1 : J 355 (72 + 7 * (i : Int) + 2) = 1 := by omega
          obtain ⟨x0, x1, x2, x3⟩ := st_wh hK hW (p := i) (by omega) (by omega) f1
          have hc3 : J 355 (72 + 7 * (i : Int) + 3) / 24 < 3 := by have := hK.1.2.2.2.2.2.2.2.1; omega
          have hsmC := ok_smC hL hP a4 (c := J 355 (72 + 7 * (i : Int) + 3) / 24) (by omega) hc3
          obtain ⟨x', -, hx'⟩ := sp_235 (W := W) (J := jrow J 358 x) (p := i) (by rw [e55]; exact hK) (by omega) (by omega) (by rw [e55]; exact x0) (by rw [e55]; exact x1) (by rw [e55]; exact hsmC) (by rw [e55]; exact x2)
          rw [e55, jrow_jrow] at hx'
          have hwc := wayC_own hK hW hL (p := i) (by omega) (by omega) f1
          have hwb := wayS_bd (J 355) (J 355 (72 + 7 * (i : Int) + 3) / 24) i (J 355 (72 + 7 * (i : Int) + 3) % 24)
          rw [decide_eq_false f, Bool.false_or, hwc] at hnb
          by_cases f2 : wayS (J 355) (J 355 (72 + 7 * (i : Int) + 3) / 24) i (J 355 (72 + 7 * (i : Int) + 3) % 24) = -1
          · rw [decide_eq_false (by omega)] at hnb
            obtain ⟨y4, y, hy⟩ := back (b2 true) x' (by rw [hst, hnb, if_neg (by decide)])
            refine ⟨y4, y, fun Q => ?_⟩
            rw [first, hc1, sg_256_71, if_neg (by decide), sp_221 (c := (i : Int)) (k := 2) (by omega) (by omega) (by omega), e55]
            simp only [zk_l, zk_r, Option.toList_some, Option.toList_none, List.cons_append, List.nil_append, zrokB, zrokB0, zrokB1, zrokJ0, zrokJ1, and_true, true_and, and_self, if_true, if_false, b2_0, b2_1, b2_not, ite_self]
            rw [sg_256_84, if_neg (by rw [jI_eq0 (by omega) (by omega)]; exact f)]
            refine (hx' _).trans ?_
            simp only [zk_l, zk_r, Option.toList_some, Option.toList_none, List.cons_append, List.nil_append, zrokB, zrokB0, zrokB1, zrokJ0, zrokJ1, and_true, true_and, and_self, if_true, if_false, b2_0, b2_1, b2_not, ite_self]
            rw [sg_256_92, if_pos (by rw [f2])]
            exact hy Q
          · rw [decide_eq_true f2] at hnb
            obtain ⟨y4, y, hy⟩ := take (b2 true) x' (by rw [hst, hnb, if_pos rfl])
            refine ⟨y4, y, fun Q => ?_⟩
            rw [first, hc1, sg_256_71, if_neg (by decide), sp_221 (c := (i : Int)) (k := 2) (by omega) (by omega) (by omega), e55]
            simp only [zk_l, zk_r, Option.toList_some, Option.toList_none, List.cons_append, List.nil_append, zrokB, zrokB0, zrokB1, zrokJ0, zrokJ1, and_true, true_and, and_self, if_true, if_false, b2_0, b2_1, b2_not, ite_self]
            rw [sg_256_84, if_neg (by rw [jI_eq0 (by omega) (by omega)]; exact f)]
            refine (hx' _).trans ?_
            simp only [zk_l, zk_r, Option.toList_some, Option.toList_none, List.cons_append, List.nil_append, zrokB, zrokB0, zrokB1, zrokJ0, zrokJ1, and_true, true_and, and_self, if_true, if_false, b2_0, b2_1, b2_not, ite_self]
            rw [sg_256_92, if_neg (by rw [jI_eq (by omega) (by omega) (by omega) (by omega)]; exact f2)]
            exact hy Q
  obtain ⟨x4', x', hrun⟩ := key (J 355 6).toNat (Nat.le_refl _) (.float 0) (J 358)
  rw [Nat.sub_self, jrow_id] at hrun
  have hend : ∀ Q : zO → zI → Prop, wz W 256 0 [.ref 353, .int (jI g), .float 0, .float 0, .float 0] [] (jm J) Q = (if jI (nxP (J 355) g) = jI (-1) then Q (oI (-1)) (jm (jrow J 358 x')) else wz W 221 0 [.ref 353, .int (jI (nxP (J 355) g)), .int (jI 2)] [] (jm (jrow J 358 x')) (zk Q (fun v I1 => wz W 256 117 [.ref 353, .int (jI g), .int (jI (nxP (J 355) g)), .int (jI (J 355 6)), x4'] (v.toList ++ []) I1 Q))) := by
    intro Q
    rw [sg_256_0]
    refine (hrun Q).trans ?_
    rw [sg_256_4]
    have e9 : jm (jrow J 358 x') 355 (jI 6).toNatClampNeg = jI (J 355 6) := by
      show jI (jrow J 358 x' 355 6) = _
      rw [e55]
    rw [e9, and_iff_r (by decide), if_pos (Int32.le_refl _)]
  have hor := nxS_or (J 355) g (J 355 6).toNat
  have hpp : nxS (J 355) g (J 355 6).toNat = nxP (J 355) g := rfl
  rw [hpp] at hor
  generalize nxP (J 355) g = p at *
  by_cases c : p = -1
  · rw [if_pos c, if_pos (Or.inl c), Int.add_zero]
    refine ⟨jrow J 358 x', fun Q => ?_, e55 _, by rw [jrow_ne (by decide)], fun i hi => by rw [jrow_ne (by decide)], fun r h3 h5 h8 => jrow_ne h8⟩
    rw [hend, if_pos (by rw [c]), c]
  · obtain ⟨p0, p1, p2⟩ : 0 ≤ p ∧ p < (J 355 6).toNat ∧ clv (J 355) p = true := by
      rcases hor with h | h
      · exact absurd h c
      · exact h
    have p1' : p < J 355 6 := by omega
    obtain ⟨st, -, -⟩ := clv_st hDD p0 p1' p2
    rw [if_neg c]
    unfold svT
    by_cases c2 : J 355 (72 + 7 * p + 2) = 0
    · rw [if_pos c2, if_pos (Or.inr c2), Int.add_zero]
      refine ⟨jrow (jrow J 358 x') 355 (fShipW (J 355) p 2), fun Q => ?_, jrow_same, by rw [jrow_ne (by decide), jrow_ne (by decide)], fun i hi => by rw [jrow_ne (by decide), jrow_ne (by decide)], fun r h3 h5 h8 => by rw [jrow_ne h5, jrow_ne h8]⟩
      rw [hend, if_neg (by rw [jI_eq (by omega) (by omega) (by omega) (by omega)]; exact c), sp_221 (c := p) (k := 2) (by omega) (by omega) (by omega), e55]
      simp only [zk_l, zk_r, Option.toList_some, Option.toList_none, List.cons_append, List.nil_append, zrokB, zrokB0, zrokB1, zrokJ0, zrokJ1, and_true, true_and, and_self, if_true, if_false, b2_0, b2_1, b2_not, ite_self]
      rw [sg_256_117, if_pos (by rw [c2]; rfl), sp_239o (e55 _) hDD p0 p1' c2]
      simp only [zk_l, zk_r, Option.toList_some, Option.toList_none, List.cons_append, List.nil_append, zrokB, zrokB0, zrokB1, zrokJ0, zrokJ1, and_true, true_and, and_self, if_true, if_false, b2_0, b2_1, b2_not, ite_self]
      rw [sg_256_125, sg_256_156, sp_250 p0 (by omega) (by decide) (by decide), jrow_same, jrow_jrow]
      simp only [zk_l, zk_r, Option.toList_some, Option.toList_none, List.cons_append, List.nil_append, zrokB, zrokB0, zrokB1, zrokJ0, zrokJ1, and_true, true_and, and_self, if_true, if_false, b2_0, b2_1, b2_not, ite_self]
      rw [sg_256_162]
      rfl
    · rw [if_neg c2, if_neg (by omega)]
      have c1 : J 355 (72 + 7 * p + 2) = 1 := by omega
      obtain ⟨x0, x1, x2, x3⟩ := st_wh hK hW p0 p1' c1
      have hc3 : J 355 (72 + 7 * p + 3) / 24 < 3 := by have := hK.1.2.2.2.2.2.2.2.1; omega
      have hf1 : fOpen (J 355) (J 355 (72 + 7 * p + 3) / 24) (72 + 7 * p + 3) = J 355 (72 + 7 * p + 3) := by unfold fOpen; exact sset_ne (by omega)
      refine ⟨jrow (jrow (jrow J 358 x') 353 (sset (J 353) 18 (J 353 18 + 1))) 355 (fShipS (J 355) p 2), fun Q => ?_, jrow_same, by rw [jrow_ne (by decide), jrow_same, sset_eq rfl], fun i hi => by rw [jrow_ne (by decide), jrow_same, sset_ne hi], fun r h3 h5 h8 => by rw [jrow_ne h5, jrow_ne h3, jrow_ne h8]⟩
      rw [hend, if_neg (by rw [jI_eq (by omega) (by omega) (by omega) (by omega)]; exact c), sp_221 (c := p) (k := 2) (by omega) (by omega) (by omega), e55]
      simp only [zk_l, zk_r, Option.toList_some, Option.toList_none, List.cons_append, List.nil_append, zrokB, zrokB0, zrokB1, zrokJ0, zrokJ1, and_true, true_and, and_self, if_true, if_false, b2_0, b2_1, b2_not, ite_self]
      rw [sg_256_117, if_neg (by rw [jI_eq0 (by omega) (by omega)]; exact c2), sp_221 (c := p) (k := 3) (by omega) (by omega) (by omega), e55]
      simp only [zk_l, zk_r, Option.toList_some, Option.toList_none, List.cons_append, List.nil_append, zrokB, zrokB0, zrokB1, zrokJ0, zrokJ1, and_true, true_and, and_self, if_true, if_false, b2_0, b2_1, b2_not, ite_self]
      rw [sg_256_135]
      simp (disch := first | assumption | omega) only [Int.add_zero, jI_nat, jI_add, jI_sub, jI_mul, jI_neg, jI_lt, jI_le, jI_eq, jI_lt0, jI_0lt, jI_le0, jI_0le, jI_eq0, jI_in, jI_dv, i_mod]
      rw [sp_240 (by omega) hc3, e55]
      simp only [zk_l, zk_r, Option.toList_some, Option.toList_none, List.cons_append, List.nil_append, zrokB, zrokB0, zrokB1, zrokJ0, zrokJ1, and_true, true_and, and_self, if_true, if_false, b2_0, b2_1, b2_not, ite_self]
      rw [sg_256_141, sp_242 p0 (by omega) (by rw [jrow_same, hf1]; exact x0) (by rw [jrow_same, hf1]; omega), jrow_same, jrow_jrow]
      simp only [zk_l, zk_r, Option.toList_some, Option.toList_none, List.cons_append, List.nil_append, zrokB, zrokB0, zrokB1, zrokJ0, zrokJ1, and_true, true_and, and_self, if_true, if_false, b2_0, b2_1, b2_not, ite_self]
      rw [sg_256_146]
      simp (disch := first | assumption | omega) only [jI_cl, jm_n, jz_n, i_lit, i_c0, i_c1, Int.toNat_of_nonneg, Int.toNat_natCast, jrow_same, jrow_ne, jrow_jrow, sset_eq, sset_ne]
      rw [jI_add]
      simp (disch := first | assumption | omega) only [jI_cl, jm_n, jz_n, i_lit, i_c0, i_c1, Int.toNat_of_nonneg, Int.toNat_natCast, jrow_same, jrow_ne, jrow_jrow, sset_eq, sset_ne]
      rw [sg_256_156, sp_250 p0 (by omega) (by decide) (by decide)]
      simp only [zk_l, zk_r, Option.toList_some, Option.toList_none, List.cons_append, List.nil_append, zrokB, zrokB0, zrokB1, zrokJ0, zrokJ1, and_true, true_and, and_self, if_true, if_false, b2_0, b2_1, b2_not, ite_self]
      rw [sg_256_162]
      have e7 : ∀ (f g h : Int → Int), jrow (jrow (jrow (jrow J 358 x') 355 f) 353 g) 355 h = jrow (jrow (jrow J 358 x') 353 g) 355 h := by
        intro f g h
        funext r
        by_cases d : r = 355
        · rw [d, jrow_same, jrow_same]
        · rw [jrow_ne d, jrow_ne d]
          by_cases d2 : r = 353
          · rw [d2, jrow_same, jrow_same]
          · rw [jrow_ne d2, jrow_ne d2, jrow_ne d]
      rw [e7]
      rfl
theorem sp_257 {s : Int → Int} (hK : okK s) (hD : okD D k s) (hD5 : D ≤ 500) {g : Int} (g0 : 0 ≤ g) (g1 : g < 6) : ∀ (m n : Nat), n + m ≤ 40 → ∀ (J : zJ), J 355 = svs s g n → J 353 18 = frS s g n → ∃ J', (∀ Q : zO → zI → Prop, wz W 257 7 [.ref 353, .int (jI g), .int (jI (n + m : Nat)), .int (jI n)] [] (jm J) Q = Q (oI (svf s g m n)) (jm J')) ∧ sM J J' (svs s g (svf s g m n)) (frS s g (svf s g m n)) := by
  intro m
  induction m with
  | zero =>
    intro n hn J h5 h18
    refine ⟨J, fun Q => ?_, h5, h18, fun i hi => rfl, fun r _ _ _ => rfl⟩
    rw [sg_257_7, if_pos (by rw [jI_le (by omega) (by omega) (by omega) (by omega)]; omega), sg_257_27]
    rfl
  | succ m ih =>
    intro n hn J h5 h18
    obtain ⟨v1, v2, v3, v4⟩ := svs_ok hK hD g n
    have a4 := v2.1.2.2.2.1
    obtain ⟨J1, r1, r2, r3, r4, r5⟩ := sp_256 (W := W) (J := J) (k := k + n) (D := D) (by rw [h5]; exact okK_same hK v1) (by rw [h5]; exact v2) hD5 g0 g1
    rw [h5] at r1 r2 r3
    have hor := nxS_or (svs s g n) g (svs s g n 6).toNat
    have hp : nxS (svs s g n) g (svs s g n 6).toNat = nxP (svs s g n) g := rfl
    rw [hp] at hor
    have r2' : J1 355 = svs s g (n + 1) := r2
    have r3' : J1 353 18 = frS s g (n + 1) := by rw [r3, h18]; rfl
    have hrun : ∀ Q : zO → zI → Prop, wz W 257 7 [.ref 353, .int (jI g), .int (jI (n + (m + 1) : Nat)), .int (jI n)] [] (jm J) Q = wz W 257 17 [.ref 353, .int (jI g), .int (jI (n + (m + 1) : Nat)), .int (jI n)] [.int (jI (nxP (svs s g n) g))] (jm J1) Q := by
      intro Q
      rw [sg_257_7, if_neg (by rw [jI_le (by omega) (by omega) (by omega) (by omega)]; omega)]
      refine (r1 _).trans ?_
      simp only [zk_l, zk_r, Option.toList_some, Option.toList_none, List.cons_append, List.nil_append, zrokB, zrokB0, zrokB1, zrokJ0, zrokJ1, and_true, true_and, and_self, if_true, if_false, b2_0, b2_1, b2_not, ite_self]
    by_cases c : nxP (svs s g n) g = -1
    · have e : svf s g (m + 1) n = n := by show (if _ then _ else _) = _; rw [if_pos c]
      have e2 : svs s g (n + 1) = svs s g n := by show (if _ then _ else _) = _; rw [if_pos c]
      have e3 : frS s g (n + 1) = frS s g n := by show _ + (if _ then _ else _) = _; rw [if_pos (Or.inl c), Int.add_zero]
      rw [e2] at r2'
      rw [e3] at r3'
      rw [e]
      refine ⟨J1, fun Q => ?_, r2', r3', r4, r5⟩
      rw [hrun, sg_257_17, if_pos (by rw [c]), sg_257_27]
    · have e : svf s g (m + 1) n = svf s g m (n + 1) := by show (if _ then _ else _) = _; rw [if_neg c]
      obtain ⟨J2, s1, s2, s3, s4, s5⟩ := ih (n + 1) (by omega) J1 r2' r3'
      rw [e]
      refine ⟨J2, fun Q => ?_, s2, s3, fun i hi => by rw [s4 i hi, r4 i hi], fun r h3 h9 h8 => by rw [s5 r h3 h9 h8, r5 r h3 h9 h8]⟩
      rw [hrun, sg_257_17, if_neg (by rw [jI_eq (by omega) (by omega) (by omega) (by omega)]; exact c), jI_add]
      have := s1 Q
      rw [show n + 1 + m = n + (m + 1) by omega] at this
      exact this
end
