/-! ===== the class's counting of pairs: all cells ===== -/
/-- the best balance of a table -/
def bal (cap : Nat) (N : Int → Int) (M : Nat) : Prop := (M = 0 ∨ ∃ p m : Nat, p < 81 ∧ m < cap ∧ (M : Int) = min (m : Int) (N (cap * p + m : Nat))) ∧ ∀ p m : Nat, p < 81 → m < cap → min (m : Int) (N (cap * p + m : Nat)) ≤ M
section
variable {W : zW} {J : zJ} {Q : zO → zI → Prop}
theorem sp_24 (hb : ∀ p m : Nat, p < 81 → m < 13 → -1 ≤ J 350 (13 * p + m : Nat) ∧ J 350 (13 * p + m : Nat) ≤ 100) : ∃ M : Nat, (∀ Q : zO → zI → Prop, wz W 24 0 [.ref 348, .float 0, .float 0, .float 0] [] (jm J) Q = Q (oI M) (jm J)) ∧ bal 13 (J 350) M ∧ M ≤ 100 := by
  -- one edge
  have edge : ∀ p : Nat, p < 81 → ∀ n : Nat, n ≤ 13 → ∀ M : Nat, M ≤ 100 → ∃ M' : Nat, (∀ Q : zO → zI → Prop, wz W 24 12 [.ref 348, .int (jI M), .int (jI p), .int (jI (13 - n : Nat))] [] (jm J) Q = wz W 24 4 [.ref 348, .int (jI M'), .int (jI (p + 1 : Nat)), .int (jI 13)] [] (jm J) Q) ∧ M ≤ M' ∧ M' ≤ 100 ∧ (M' = M ∨ ∃ m : Nat, m < 13 ∧ (M' : Int) = min (m : Int) (J 350 (13 * p + m : Nat))) ∧ ∀ m : Nat, 13 - n ≤ m → m < 13 → min (m : Int) (J 350 (13 * p + m : Nat)) ≤ M' := by
    intro p hp n
    induction n with
    | zero =>
      intro _ M hM
      refine ⟨M, fun Q => ?_, Nat.le_refl _, hM, Or.inl rfl, fun m h1 h2 => by omega⟩
      rw [sg_24_12, if_pos (by decide), jI_add]
      rfl
    | succ n ih =>
      intro hn M hM
      have hl : 13 - n = 13 - (n + 1) + 1 := by omega
      have hlt : 13 - (n + 1) < 13 := by omega
      rw [hl] at ih
      generalize 13 - (n + 1) = m at *
      obtain ⟨y1, y2⟩ := hb p m hp hlt
      have e : ((p : Int) * 13 + m) = (13 * p + m : Nat) := by omega
      obtain ⟨M1, hM1⟩ : ∃ M1 : Nat, (M1 : Int) = max (M : Int) (min (m : Int) (J 350 (13 * p + m : Nat))) := ⟨(max (M : Int) (min (m : Int) (J 350 (13 * p + m : Nat)))).toNat, by omega⟩
      obtain ⟨M', r, l1, l2, l3, l4⟩ := ih (by omega) M1 (by omega)
      refine ⟨M', fun Q => ?_, by omega, l2, ?_, fun m' m0 m1 => ?_⟩
      · rw [sg_24_12, if_neg (by rw [jI_lt (by omega) (by omega) (by omega) (by omega)]; omega), jI_mul, jI_add, e, sp_45 zRow_349 (by omega) (by omega) (by decide), show J (349 + 1) = J 350 from rfl]
        simp only [zk_l, zk_r, Option.toList_some, Option.toList_none, List.cons_append, List.nil_append, zrokB, zrokB0, zrokB1, zrokJ0, zrokJ1, and_true, true_and, and_self, if_true, if_false, b2_0, b2_1, b2_not, ite_self]
        rw [sg_24_33, jmin_j (by omega) (by omega) (by omega) (by omega), jmax_j (by omega) (by omega) (by omega) (by omega), jI_add, ← hM1]
        exact r Q
      · rcases l3 with h | h
        · by_cases c : M1 = M
          · exact Or.inl (by omega)
          · exact Or.inr ⟨m, hlt, by omega⟩
        · exact Or.inr h
      · by_cases c : m' = m
        · clear l3 l4
          rw [c]
          omega
        · exact l4 m' (by omega) m1
  have all : ∀ n : Nat, n ≤ 81 → ∀ (M : Nat) (x3 : Value), M ≤ 100 → ∃ M' : Nat, (∀ Q : zO → zI → Prop, wz W 24 4 [.ref 348, .int (jI M), .int (jI (81 - n : Nat)), x3] [] (jm J) Q = Q (oI M') (jm J)) ∧ M ≤ M' ∧ M' ≤ 100 ∧ (M' = M ∨ ∃ p m : Nat, p < 81 ∧ m < 13 ∧ (M' : Int) = min (m : Int) (J 350 (13 * p + m : Nat))) ∧ ∀ p m : Nat, 81 - n ≤ p → p < 81 → m < 13 → min (m : Int) (J 350 (13 * p + m : Nat)) ≤ M' := by
    intro n
    induction n with
    | zero =>
      intro _ M x3 hM
      refine ⟨M, fun Q => ?_, Nat.le_refl _, hM, Or.inl rfl, fun p m h1 h2 => by omega⟩
      rw [sg_24_4, if_pos (by decide)]
    | succ n ih =>
      intro hn M x3 hM
      have hl : 81 - n = 81 - (n + 1) + 1 := by omega
      have hlt : 81 - (n + 1) < 81 := by omega
      rw [hl] at ih
      generalize 81 - (n + 1) = p at *
      obtain ⟨M1, r1, k1, k2, k3, k4⟩ := edge p hlt 13 (Nat.le_refl _) M hM
      obtain ⟨M', r, l1, l2, l3, l4⟩ := ih (by omega) M1 (.int (jI 13)) k2
      refine ⟨M', fun Q => ?_, by omega, l2, ?_, fun p' m' p0 p1 m1 => ?_⟩
      · rw [sg_24_4, if_neg (by rw [jI_le (by omega) (by omega) (by omega) (by omega)]; omega)]
        exact (r1 Q).trans (r Q)
      · rcases l3 with h | h
        · rcases k3 with h2 | ⟨m, h2, h3⟩
          · exact Or.inl (by omega)
          · exact Or.inr ⟨p, m, hlt, h2, by omega⟩
        · exact Or.inr h
      · by_cases c : p' = p
        · rw [c]
          have := k4 m' (by omega) m1
          omega
        · exact l4 p' m' (by omega) p1 m1
  obtain ⟨M, r, l1, l2, l3, l4⟩ := all 81 (Nat.le_refl _) 0 (.float 0) (by decide)
  refine ⟨M, fun Q => ?_, ⟨l3, fun p m hp hm => l4 p m (by omega) hp hm⟩, l2⟩
  rw [sg_24_0]
  exact r Q
/-- what the answer is -/
def ans (P : Nat → Nat → Nat → Prop) (cap : Nat) (M : Nat) : Prop := (M = 0 ∨ ∃ p m s : Nat, m < cap ∧ P p m s ∧ M = min m s) ∧ ∀ p m s : Nat, m < cap → P p m s → min m s ≤ M
theorem bal_ans {P : Nat → Nat → Nat → Prop} {cap M : Nat} {N : Int → Int} (hP : ∀ p m s, P p m s → p < 81) (h : rep P cap N) (hb : bal cap N M) : ans P cap M := by
  obtain ⟨h1, h2⟩ := h
  obtain ⟨b1, b2⟩ := hb
  refine ⟨?_, fun p m s hm hp => ?_⟩
  · rcases b1 with h | ⟨p, m, p1, m1, e⟩
    · exact Or.inl h
    · obtain ⟨y1, y2⟩ := h1 p m p1 m1
      by_cases c : N (cap * p + m : Nat) = -1
      · rw [c] at e; omega
      · exact Or.inr ⟨p, m, _, m1, y2 c, by omega⟩
  · have h3 := h2 p m s (hP p m s hp) hm hp
    have h4 := b2 p m (hP p m s hp) hm
    omega
theorem ans_eq {A B : Nat → Bool} {w n M M' : Nat} (h1 : 1 ≤ w) (h4 : w ≤ 4) (hn : n ≤ 24) (h : ans (pX A B true w n) 13 M) (h' : ans (pX A B true w n) 25 M') : M = M' := by
  obtain ⟨a1, a2⟩ := h
  obtain ⟨c1, c2⟩ := h'
  have l1 : M ≤ M' := by
    rcases a1 with h | ⟨p, m, s, m1, x, e⟩
    · omega
    · have := c2 p m s (by omega) x
      omega
  have l2 : M' ≤ M := by
    rcases c1 with h | ⟨p, m, s, m1, x, e⟩
    · omega
    · by_cases c : m < 13
      · have := a2 p m s c x
        omega
      · have hb := pX_bd x
        obtain ⟨p', x'⟩ := pX_drop h1 h4 x (show 12 ≤ m by omega)
        have := a2 p' 12 s (by decide) x'
        omega
  omega
theorem ans_mix {A B : Nat → Bool} {w n M : Nat} (h1 : 1 ≤ w) (h4 : w ≤ 4) (hn : n ≤ 24) (h : ans (pX A B false w n) 25 M) : M = min (cntB (fun i => A i || B i) n / 2) (min (cntB A n) (cntB B n)) := by
  obtain ⟨c1, c2⟩ := h
  have l1 : M ≤ min (cntB (fun i => A i || B i) n / 2) (min (cntB A n) (cntB B n)) := by
    rcases c1 with h | ⟨p, m, s, m1, x, e⟩
    · omega
    · obtain ⟨y1, y2, y3⟩ := pX_get h1 h4 x
      omega
  obtain ⟨p, m, s, x, y⟩ := pX_mix (A := A) (B := B) h1 h4 (n := n)
  have hb := pX_bd x
  have := c2 p m s (by omega) x
  omega
theorem rep_0 {A B : Nat → Bool} {bad : Bool} {w cap : Nat} (hc : cap = 13 ∨ cap = 25) (h1 : 1 ≤ w) (h4 : w ≤ 4) {N : Int → Int} (h0 : N 0 = 0) (hN : ∀ i : Int, 0 < i → i < 81 * cap → N i = -1) : rep (pX A B bad w 0) cap N := by
  have hat : ∀ p m : Nat, p < 81 → m < cap → N (cap * p + m : Nat) = if p = 0 ∧ m = 0 then 0 else -1 := by
    intro p m hp hm
    by_cases c : p = 0 ∧ m = 0
    · rw [if_pos c, c.1, c.2, Nat.mul_zero]
      exact h0
    · rw [if_neg c]
      rcases hc with rfl | rfl
      · exact hN _ (by omega) (by omega)
      · exact hN _ (by omega) (by omega)
  refine ⟨fun p m hp hm => ?_, fun p m s hp hm hx => ?_⟩
  · rw [hat p m hp hm]
    by_cases c : p = 0 ∧ m = 0
    · rw [if_pos c]
      exact ⟨by decide, fun _ => (pX_0 h1 h4).mpr ⟨c.1, c.2, rfl⟩⟩
    · rw [if_neg c]
      exact ⟨by decide, fun h => absurd rfl h⟩
  · obtain ⟨rfl, rfl, rfl⟩ := (pX_0 h1 h4).mp hx
    rw [hat 0 0 hp hm, if_pos ⟨rfl, rfl⟩]
    exact Int.le_refl 0
theorem rep_cg {P : Nat → Nat → Nat → Prop} {cap : Nat} {N N' : Int → Int} (h : rep P cap N) (e : ∀ i : Int, 0 ≤ i → i < 81 * cap → N' i = N i) (hc : cap = 13 ∨ cap = 25) : rep P cap N' := by
  have ee : ∀ p m : Nat, p < 81 → m < cap → N' (cap * p + m : Nat) = N (cap * p + m : Nat) := by
    intro p m hp hm
    rcases hc with rfl | rfl
    · exact e _ (by omega) (by omega)
    · exact e _ (by omega) (by omega)
  refine ⟨fun p m hp hm => ?_, fun p m s hp hm hx => ?_⟩
  · rw [ee p m hp hm]; exact h.1 p m hp hm
  · rw [ee p m hp hm]; exact h.2 p m s hp hm hx
/-- goods that clash: the class -/
theorem sp_20 {c R w : Nat} (hcb : zChb c) (hr : J c 1 = R) (hw : J c 2 = w) (h1 : 1 ≤ w) (h4 : w ≤ 4) (hR : R ≤ 6) (hn : R * w ≤ 24) (A' B' : Int → Bool) (hc350 : c ≠ 350) (hc352 : c ≠ 352) :
    ∃ (M : Nat) (J' : zJ), (∀ Q : zO → zI → Prop, wz W 20 0 [.ref 348, .ref c, .int (mk (R * w) A'), .int (mk (R * w) B'), .float 0, .float 0, .float 0, .float 0] [] (jm J) Q = Q (oI M) (jm J')) ∧ ans (pX (fun i => A' i) (fun i => B' i) true w (R * w)) 13 M ∧ ∀ r, r ≠ 350 → r ≠ 352 → J' r = J r := by
  -- the columns of a row
  have cols : ∀ r : Nat, r < R → ∀ n : Nat, n ≤ w → ∀ J1 : zJ, (∀ q, q ≠ 350 → q ≠ 352 → J1 q = J q) → rep (pX (fun i => A' i) (fun i => B' i) true w (r * w + (w - n))) 13 (J1 350) → ∃ J2, (∀ Q : zO → zI → Prop, wz W 20 38 [.ref 348, .ref c, .int (mk (R * w) A'), .int (mk (R * w) B'), .int (jI (r * w + (w - n) : Nat)), .int (jI r), .int (jI (3 ^ (w - n) : Nat)), .int (jI (w - n : Nat))] [] (jm J1) Q = wz W 20 23 [.ref 348, .ref c, .int (mk (R * w) A'), .int (mk (R * w) B'), .int (jI ((r + 1) * w : Nat)), .int (jI (r + 1 : Nat)), .int (jI (3 ^ w : Nat)), .int (jI w)] [] (jm J2) Q) ∧ (∀ q, q ≠ 350 → q ≠ 352 → J2 q = J q) ∧ rep (pX (fun i => A' i) (fun i => B' i) true w ((r + 1) * w)) 13 (J2 350) := by
    intro r hrR n
    have hrs : (r + 1) * w = r * w + w := Nat.succ_mul _ _
    have hle : (r + 1) * w ≤ R * w := Nat.mul_le_mul_right _ (by omega)
    induction n with
    | zero =>
      intro _ J1 hf hrep
      refine ⟨J1, fun Q => ?_, hf, ?_⟩
      · have e2 : jm J1 c 2 = jI w := by
          show jI (J1 c 2) = _
          rw [hf c hc350 hc352, hw]
        rw [Nat.sub_zero, ← hrs, sg_20_38 (hp1 := hcb), e2, if_pos (Int32.le_refl _), jI_add]
        rfl
      · rw [hrs, ← Nat.sub_zero w] at *
        exact hrep
    | succ n ih =>
      intro hnw J1 hf hrep
      have hl : w - n = w - (n + 1) + 1 := by omega
      rw [hl] at ih
      have hq : w - (n + 1) < w := by omega
      generalize w - (n + 1) = q at *
      have hk : r * w + q < 24 := by omega
      have hmod : (r * w + q) % w = q := md_add (Nat.mul_mod_left r w) hq
      have e2 : jm J1 c 2 = jI w := by
        show jI (J1 c 2) = _
        rw [hf c hc350 hc352, hw]
      have hpw : 3 ^ q ≤ 27 := by
        obtain rfl | rfl | rfl | rfl : q = 0 ∨ q = 1 ∨ q = 2 ∨ q = 3 := by omega
        all_goals decide
      -- the copy, and the empty table
      let J1a : zJ := jrow (jrow J1 352 (scpy (J1 350) (J1 352) 1053)) 350 (sfil (-1) (J1 350) 1053)
      have a352 : J1a 352 = scpy (J1 350) (J1 352) 1053 := by
        show jrow (jrow _ _ _) _ _ 352 = _
        rw [jrow_ne (by decide), jrow_same]
      have a350 : J1a 350 = sfil (-1) (J1 350) 1053 := jrow_same
      have hrep2 : rep (pX (fun i => A' i) (fun i => B' i) true w (r * w + q)) 13 (scpy (J1 350) (J1 352) 1053) := rep_cg hrep (fun i i0 i1 => scpy_in i0 (by omega)) (Or.inl rfl)
      obtain ⟨N', s1, s2⟩ := sp_21 (W := W) (J := J1a) (A := fun i => A' i) (B := fun i => B' i) (k := r * w + q) (q := q) h1 h4 hk hmod a352 hrep2 a350 (fun i i0 i1 => sfil_in i0 i1)
      obtain ⟨J2, t1, t2, t3⟩ := ih (by omega) (jrow J1a 350 N') (fun z z1 z2 => by
        rw [jrow_ne z1]
        show jrow (jrow _ _ _) _ _ z = _
        rw [jrow_ne z1, jrow_ne z2, hf z z1 z2]) (by rw [jrow_same]; exact s2)
      refine ⟨J2, fun Q => ?_, t2, t3⟩
      rw [sg_20_38 (hp1 := hcb), e2, if_neg (by rw [jI_le (by omega) (by omega) (by omega) (by omega)]; omega), sp_49 zRow_351 zRow_349 (by decide)]
      simp only [zk_l, zk_r, Option.toList_some, Option.toList_none, List.cons_append, List.nil_append, zrokB, zrokB0, zrokB1, zrokJ0, zrokJ1, and_true, true_and, and_self, if_true, if_false, b2_0, b2_1, b2_not, ite_self]
      rw [sg_20_58 (hp1 := hcb), sp_48 zRow_349 (by decide)]
      simp only [zk_l, zk_r, Option.toList_some, Option.toList_none, List.cons_append, List.nil_append, zrokB, zrokB0, zrokB1, zrokJ0, zrokJ1, and_true, true_and, and_self, if_true, if_false, b2_0, b2_1, b2_not, ite_self]
      have ej : jrow (jrow J1 (351 + 1) (scpy (J1 (349 + 1)) (J1 (351 + 1)) 1053)) (349 + 1) (sfil (-1) (jrow J1 (351 + 1) (scpy (J1 (349 + 1)) (J1 (351 + 1)) 1053) (349 + 1)) 1053) = J1a := by
        show jrow (jrow J1 352 (scpy (J1 350) (J1 352) 1053)) 350 (sfil (-1) (jrow J1 352 (scpy (J1 350) (J1 352) 1053) 350) 1053) = _
        rw [jrow_ne (show 350 ≠ 352 by decide)]
      rw [show ((1053 : Nat) : Int) = 1053 from rfl] at *
      rw [ej, sg_20_66 (hp1 := hcb), sp_167 (by omega) (by omega), mk_bt (by omega) _ (by omega) (by omega)]
      simp only [zk_l, zk_r, Option.toList_some, Option.toList_none, List.cons_append, List.nil_append, zrokB, zrokB0, zrokB1, zrokJ0, zrokJ1, and_true, true_and, and_self, if_true, if_false, b2_0, b2_1, b2_not, ite_self]
      rw [sg_20_77 (hp1 := hcb), sp_167 (by omega) (by omega), mk_bt (by omega) _ (by omega) (by omega)]
      simp only [zk_l, zk_r, Option.toList_some, Option.toList_none, List.cons_append, List.nil_append, zrokB, zrokB0, zrokB1, zrokJ0, zrokJ1, and_true, true_and, and_self, if_true, if_false, b2_0, b2_1, b2_not, ite_self]
      rw [sg_20_83 (hp1 := hcb)]
      refine (s1 _).trans ?_
      simp only [zk_l, zk_r, Option.toList_some, Option.toList_none, List.cons_append, List.nil_append, zrokB, zrokB0, zrokB1, zrokJ0, zrokJ1, and_true, true_and, and_self, if_true, if_false, b2_0, b2_1, b2_not, ite_self]
      rw [sg_20_86 (hp1 := hcb), jI_add, jI_mul, jI_add]
      have := t1 Q
      rw [Nat.pow_succ] at this
      refine Eq.trans ?_ this
      rfl
  have rows : ∀ n : Nat, n ≤ R → ∀ (J1 : zJ) (x6 x7 : Value), (∀ q, q ≠ 350 → q ≠ 352 → J1 q = J q) → rep (pX (fun i => A' i) (fun i => B' i) true w ((R - n) * w)) 13 (J1 350) → ∃ (J2 : zJ) (x6' x7' : Value), (∀ Q : zO → zI → Prop, wz W 20 23 [.ref 348, .ref c, .int (mk (R * w) A'), .int (mk (R * w) B'), .int (jI ((R - n) * w : Nat)), .int (jI (R - n : Nat)), x6, x7] [] (jm J1) Q = wz W 20 23 [.ref 348, .ref c, .int (mk (R * w) A'), .int (mk (R * w) B'), .int (jI (R * w : Nat)), .int (jI R), x6', x7'] [] (jm J2) Q) ∧ (∀ q, q ≠ 350 → q ≠ 352 → J2 q = J q) ∧ rep (pX (fun i => A' i) (fun i => B' i) true w (R * w)) 13 (J2 350) := by
    intro n
    induction n with
    | zero =>
      intro _ J1 x6 x7 hf hrep
      rw [Nat.sub_zero] at hrep ⊢
      exact ⟨J1, x6, x7, fun Q => rfl, hf, hrep⟩
    | succ n ih =>
      intro hnR J1 x6 x7 hf hrep
      have e1 : jm J1 c 1 = jI R := by
        show jI (J1 c 1) = _
        rw [hf c hc350 hc352, hr]
      obtain ⟨J2, s1, s2, s3⟩ := cols (R - (n + 1)) (by omega) w (Nat.le_refl _) J1 hf (by rw [Nat.sub_self, Nat.add_zero]; exact hrep)
      rw [Nat.sub_self, Nat.add_zero, show R - (n + 1) + 1 = R - n by omega] at s1
      rw [show R - (n + 1) + 1 = R - n by omega] at s3
      obtain ⟨J3, y6, y7, t1, t2, t3⟩ := ih (by omega) J2 (.int (jI (3 ^ w : Nat))) (.int (jI w)) s2 s3
      refine ⟨J3, y6, y7, fun Q => ?_, t2, t3⟩
      rw [sg_20_23 (hp1 := hcb), e1, if_neg (by rw [jI_le (by omega) (by omega) (by omega) (by omega)]; omega)]
      refine Eq.trans ?_ (t1 Q)
      exact s1 Q
  -- the start
  let J0 : zJ := jrow J 350 (sset (sfil (-1) (J 350) 1053) 0 0)
  have z350 : J0 350 = sset (sfil (-1) (J 350) 1053) 0 0 := jrow_same
  have hrep0 : rep (pX (fun i => A' i) (fun i => B' i) true w 0) 13 (J0 350) := by
    rw [z350]
    exact rep_0 (Or.inl rfl) h1 h4 (sset_eq rfl) (fun i i0 i1 => by rw [sset_ne (by omega), sfil_in (by omega) (by omega)])
  obtain ⟨J2, y6, y7, t1, t2, t3⟩ := rows R (Nat.le_refl _) J0 (.float 0) (.float 0) (fun q q1 q2 => jrow_ne q1) (by rw [Nat.sub_self, Nat.zero_mul]; exact hrep0)
  rw [Nat.sub_self, Nat.zero_mul] at t1
  have hbd : ∀ p m : Nat, p < 81 → m < 13 → -1 ≤ J2 350 (13 * p + m : Nat) ∧ J2 350 (13 * p + m : Nat) ≤ 100 := by
    intro p m hp hm
    obtain ⟨y1, y2⟩ := t3.1 p m hp hm
    refine ⟨y1, ?_⟩
    by_cases c : J2 350 (13 * p + m : Nat) = -1
    · omega
    · have := pX_bd (y2 c); omega
  obtain ⟨M, m1, m2, m3⟩ := sp_24 (W := W) hbd
  refine ⟨M, J2, fun Q => ?_, bal_ans (fun p m s h => pX_lt h) t3 m2, t2⟩
  have e1 : jm J2 c 1 = jI R := by
    show jI (J2 c 1) = _
    rw [t2 c hc350 hc352, hr]
  rw [sg_20_0 (hp1 := hcb), sp_48 zRow_349 (by decide)]
  simp only [zk_l, zk_r, Option.toList_some, Option.toList_none, List.cons_append, List.nil_append, zrokB, zrokB0, zrokB1, zrokJ0, zrokJ1, and_true, true_and, and_self, if_true, if_false, b2_0, b2_1, b2_not, ite_self]
  rw [sg_20_8 (hp1 := hcb), sp_46 zRow_349 (by decide) (by decide) (by decide)]
  simp only [zk_l, zk_r, Option.toList_some, Option.toList_none, List.cons_append, List.nil_append, zrokB, zrokB0, zrokB1, zrokJ0, zrokJ1, and_true, true_and, and_self, if_true, if_false, b2_0, b2_1, b2_not, ite_self]
  have ej : jrow (jrow J (349 + 1) (sfil (-1) (J (349 + 1)) (1053 : Nat))) (349 + 1) (sset (jrow J (349 + 1) (sfil (-1) (J (349 + 1)) (1053 : Nat)) (349 + 1)) 0 0) = J0 := by
    rw [jrow_same, jrow_jrow]
    rfl
  rw [ej, sg_20_17 (hp1 := hcb)]
  refine (t1 Q).trans ?_
  rw [sg_20_23 (hp1 := hcb), e1, if_pos (Int32.le_refl _), m1]
  simp only [zk_l, zk_r, Option.toList_some, Option.toList_none, List.cons_append, List.nil_append, zrokB, zrokB0, zrokB1, zrokJ0, zrokJ1, and_true, true_and, and_self, if_true, if_false, b2_0, b2_1, b2_not, ite_self]
  rw [sg_20_111 (hp1 := hcb)]
end
