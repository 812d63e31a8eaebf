/-! ===== the statements of the text ===== -/
theorem jmS {p q : Nat} {a b c : Int} {J : zJ} {l : List Int32} (h : q ≠ p) : jm (cS p a b c J l) q = jm J q := by
  funext n
  show jI _ = jI _
  rw [cS_ne h]
theorem jmT {p q : Nat} {a b c : Int} {J : zJ} {l : List (List Int32)} (h : q ≠ p) : jm (cT p a b c J l) q = jm J q := by
  funext n
  show jI _ = jI _
  rw [cT_ne h]
def chT (s : Int → Int) (c : Int) : List Int32 := wdL 0 ++ nmL (s (12 + 8 * c)) ++ nuL (s (12 + 8 * c + 1)) ++ nuL (s (12 + 8 * c + 2)) ++ nuL (s (12 + 8 * c + 3))
def chs (s : Int → Int) : Nat → List (List Int32)
  | 0 => []
  | n + 1 => chs s n ++ [chT s n]
def doT (s : Int → Int) (c k : Int) : List Int32 := wdL 1 ++ nmL (s (12 + 8 * c)) ++ nuL (k / gC s c) ++ nuL (k % gC s c)
def dor (s : Int → Int) (c : Int) : Nat → List (List Int32)
  | 0 => []
  | n + 1 => dor s c n ++ (if drs s c n = true then [doT s c n] else [])
def dors (s : Int → Int) : Nat → List (List Int32)
  | 0 => []
  | n + 1 => dors s n ++ dor s n (nC s n)
def gdT (s : Int → Int) (g : Int) : List Int32 := wdL 2 ++ nmL (s (36 + 6 * g)) ++ nuL (s (36 + 6 * g + 1)) ++ nuL (s (36 + 6 * g + 2)) ++ nuL (s (36 + 6 * g + 3)) ++ nuL (s (36 + 6 * g + 4)) ++ nuL (s (36 + 6 * g + 5))
def gds (s : Int → Int) : Nat → List (List Int32)
  | 0 => []
  | n + 1 => gds s n ++ [gdT s n]
def plT (s : Int → Int) (i : Int) : List Int32 := wdL 3 ++ nmL (s (36 + 6 * s (72 + 7 * s (392 + i))))
def pls (s : Int → Int) : Nat → List (List Int32)
  | 0 => []
  | n + 1 => pls s n ++ [plT s n]
def orT (s : Int → Int) (o : Int) : List Int32 := wdL 4 ++ nmL (s (36 + 6 * s (352 + 4 * o))) ++ nuL (s (352 + 4 * o + 1)) ++ nuL (s (352 + 4 * o + 2))
def ors (s : Int → Int) : Nat → List (List Int32)
  | 0 => []
  | n + 1 => ors s n ++ (if s (352 + 4 * (n : Int) + 3) = 0 then [orT s n] else [])
def lmT (s : Int → Int) : List (List Int32) := if s 1 = 100 ∧ s 2 = 10 then [] else [wdL 5 ++ nuL (s 1) ++ nuL (s 2)]
def qyT (s : Int → Int) : List (List Int32) := if s 3 = 12 then [] else [wdL 6 ++ nuL (s 3)]
def txT (s : Int → Int) : List (List Int32) := chs s (s 4).toNat ++ dors s (s 4).toNat ++ gds s (s 5).toNat ++ pls s (s 8).toNat ++ ors s (s 7).toNat ++ lmT s ++ qyT s
section
variable {W : zW} {J : zJ} {Q : zO → zI → Prop} {k D : Int} {s : Int → Int}
theorem cx4 (h : CX J 49 s D k) {J' : zJ} (e : ∀ q, q ≠ 4 → J' q = J q) : CX J' 49 s D k := ⟨h.1, RS_fr h.2.1 (fun r a b => e r (by omega)), RU_fr h.2.2.1 h.2.2.2.1 (fun r a b => e r (by omega)), h.2.2.2⟩
/-! the class -/
def xv9 : Nat → Value
  | 0 => .float 0
  | i + 1 => .ref (5 + 19 + i)
theorem sp_89 (hx : CX J 49 s D k) : wz W 89 0 [.ref 4, .ref 5, .ref 49, .float 0, .float 0] [] (jm J) Q = Q oV (jm (cT 4 0 1 2 J (chs s (s 4).toNat))) := by
  obtain ⟨hb, hS, hU, hK, ⟨hA, hT, hV, hP, hW, hL, hQ, hN⟩, hD, hk⟩ := hx
  obtain ⟨b1, b2x, b3, b4, b5, b6, b7, b8, b9, b10, b11, b12⟩ := hK.1
  have hu : jm J 5 3 = jI (s 4) := congrArg jI hU.2.1
  have key := zloop (f := fun i => wz W 89 2 [.ref 4, .ref 5, .ref 49, .int (jI i), xv9 i] [] (jm (cT 4 0 1 2 J (chs s i))) Q) (s 4).toNat (fun i hi => by
    try simp only
    obtain ⟨c1, c2, c3, c4, c5, c6, -⟩ := hK.2.1 i (by omega) (by omega)
    obtain ⟨a0, a1, a2, -⟩ := hU.2.2.2.2.2.2.2.2.1 i (by omega) (by omega)
    obtain ⟨e1, -⟩ := hS.2.2.2.2.2.1 i (by omega) (by omega)
    have ht := hT i (by omega) (by omega)
    have hcb : zChb (5 + 19 + (i : Int).toNat) := zStp_c zStp_5 (by omega)
    have f0 : jm J (5 + 19 + (i : Int).toNat) 0 = jI (s (12 + 8 * (i : Int))) := congrArg jI a0
    have f1 : jm J (5 + 19 + (i : Int).toNat) 1 = jI (s (12 + 8 * (i : Int) + 1)) := congrArg jI a1
    have f2 : jm J (5 + 19 + (i : Int).toNat) 2 = jI (s (12 + 8 * (i : Int) + 2)) := congrArg jI a2
    rw [sg_89_2 (hp1 := zStp_5) (hp2 := zStk_49)]
    simp (disch := first | assumption | omega) only [jmT, hu]
    rw [if_neg (by rw [jI_le (by omega) (by omega) (by omega) (by omega)]; omega), sp_53 zStp_5 (by omega) (by omega)]
    simp only [zk_l, zk_r, Option.toList_some, Option.toList_none, List.cons_append, List.nil_append, zrokB, zrokB0, zrokB1, zrokJ0, zrokJ1, and_true, true_and, and_self, if_true, if_false, b2_0, b2_1, b2_not, ite_self]
    rw [sg_89_15 (hp1 := zStp_5) (hp2 := zStk_49) (hqt0 := hcb), sp_94 (i := 0) (by decide)]
    simp only [zk_l, zk_r, Option.toList_some, Option.toList_none, List.cons_append, List.nil_append, zrokB, zrokB0, zrokB1, zrokJ0, zrokJ1, and_true, true_and, and_self, if_true, if_false, b2_0, b2_1, b2_not, ite_self]
    rw [sg_89_23 (hp1 := zStp_5) (hp2 := zStk_49) (hqx4 := hcb)]
    simp (disch := first | assumption | omega) only [jmS, jmT, f0]
    rw [sp_95]
    simp only [zk_l, zk_r, Option.toList_some, Option.toList_none, List.cons_append, List.nil_append, zrokB, zrokB0, zrokB1, zrokJ0, zrokJ1, and_true, true_and, and_self, if_true, if_false, b2_0, b2_1, b2_not, ite_self]
    rw [cS_cw, sg_89_32 (hp1 := zStp_5) (hp2 := zStk_49) (hqx4 := hcb)]
    simp (disch := first | assumption | omega) only [jmS, jmT, f1]
    rw [sp_96 (by omega) (by omega)]
    simp only [zk_l, zk_r, Option.toList_some, Option.toList_none, List.cons_append, List.nil_append, zrokB, zrokB0, zrokB1, zrokJ0, zrokJ1, and_true, true_and, and_self, if_true, if_false, b2_0, b2_1, b2_not, ite_self]
    rw [cS_cw, sg_89_41 (hp1 := zStp_5) (hp2 := zStk_49) (hqx4 := hcb)]
    simp (disch := first | assumption | omega) only [jmS, jmT, f2]
    rw [sp_96 (by omega) (by omega)]
    simp only [zk_l, zk_r, Option.toList_some, Option.toList_none, List.cons_append, List.nil_append, zrokB, zrokB0, zrokB1, zrokJ0, zrokJ1, and_true, true_and, and_self, if_true, if_false, b2_0, b2_1, b2_not, ite_self]
    rw [cS_cw, sg_89_50 (hp1 := zStp_5) (hp2 := zStk_49) (hqx4 := hcb), sp_45 (zStk_r13 zStk_49) (by omega) (by omega) (by decide), cS_ne (by decide), cT_ne (by decide), e1]
    simp only [zk_l, zk_r, Option.toList_some, Option.toList_none, List.cons_append, List.nil_append, zrokB, zrokB0, zrokB1, zrokJ0, zrokJ1, and_true, true_and, and_self, if_true, if_false, b2_0, b2_1, b2_not, ite_self]
    rw [sg_89_59 (hp1 := zStp_5) (hp2 := zStk_49) (hqx4 := hcb), sp_96 (by omega) (by omega)]
    simp only [zk_l, zk_r, Option.toList_some, Option.toList_none, List.cons_append, List.nil_append, zrokB, zrokB0, zrokB1, zrokJ0, zrokJ1, and_true, true_and, and_self, if_true, if_false, b2_0, b2_1, b2_not, ite_self]
    rw [cS_cw, sg_89_62 (hp1 := zStp_5) (hp2 := zStk_49) (hqx4 := hcb), jI_add, show chs s (i + 1) = chs s i ++ [chT s i] from rfl, cT_1]
    rfl)
  rw [sg_89_0 (hp1 := zStp_5) (hp2 := zStk_49)]
  refine Eq.trans key ?_
  rw [sg_89_2 (hp1 := zStp_5) (hp2 := zStk_49)]
  simp (disch := first | assumption | omega) only [jmT, hu]
  rw [if_pos (by rw [jI_le (by omega) (by omega) (by omega) (by omega)]; omega)]
theorem sp_90 (hx : CX J 49 s D k) : wz W 90 0 [.ref 4, .ref 5, .float 0, .float 0, .float 0, .float 0] [] (jm J) Q = Q oV (jm (cT 4 0 1 2 J (dors s (s 4).toNat))) := by
  obtain ⟨hb, hS, hU, hK, hDD, hD, hk⟩ := hx
  obtain ⟨b1, b2x, b3, b4, b5, b6, b7, b8, b9, b10, b11, b12⟩ := hK.1
  have hu : jm J 5 3 = jI (s 4) := congrArg jI hU.2.1
  have outer : ∀ m : Nat, m ≤ (s 4).toNat → ∀ x3 x4 x5 : Value, wz W 90 2 [.ref 4, .ref 5, .int (jI ((s 4).toNat - m : Nat)), x3, x4, x5] [] (jm (cT 4 0 1 2 J (dors s ((s 4).toNat - m)))) Q = Q oV (jm (cT 4 0 1 2 J (dors s (s 4).toNat))) := by
    intro m
    induction m with
    | zero =>
      intro _ x3 x4 x5
      rw [sg_90_2 (hp1 := zStp_5)]
      simp (disch := first | assumption | omega) only [jmT, hu]
      rw [if_pos (by rw [jI_le (by omega) (by omega) (by omega) (by omega)]; omega), Nat.sub_zero]
    | succ m ih =>
      intro hm x3 x4 x5
      have ih := ih (by omega)
      have hl : (s 4).toNat - m = ((s 4).toNat - (m + 1)) + 1 := by omega
      rw [hl] at ih
      have hi1 : (((s 4).toNat - (m + 1) : Nat) : Int) < s 4 := by omega
      generalize (s 4).toNat - (m + 1) = i at *
      obtain ⟨c1, c2, c3, c4, c5, c6, -⟩ := hK.2.1 i (by omega) (by omega)
      obtain ⟨a0, a1, a2, a4, -⟩ := hU.2.2.2.2.2.2.2.2.1 i (by omega) (by omega)
      obtain ⟨en, n1, n2, rr1, rr2, w1, w2, c3'⟩ := nC_eq hK (c := i) (by omega) hi1
      have hcb : zChb (5 + 19 + (i : Int).toNat) := zStp_c zStp_5 (by omega)
      have f0 : jm J (5 + 19 + (i : Int).toNat) 0 = jI (s (12 + 8 * (i : Int))) := congrArg jI a0
      have f1 : jm J (5 + 19 + (i : Int).toNat) 1 = jI (gR s i) := congrArg jI a1
      have f2 : jm J (5 + 19 + (i : Int).toNat) 2 = jI (gC s i) := congrArg jI a2
      have f4 : jm J (5 + 19 + (i : Int).toNat) 4 = jI (s (12 + 8 * (i : Int) + 6)) := congrArg jI a4
      have hwn : ((gC s i).toNat : Int) = gC s i := by omega
      have hrn : ((gR s i).toNat : Int) = gR s i := by omega
      have hrw : nC s i = (gR s i).toNat * (gC s i).toNat := by
        have : ((nC s i : Nat) : Int) = (((gR s i).toNat * (gC s i).toNat : Nat) : Int) := by rw [en, Int.natCast_mul, hwn, hrn]
        omega
      rw [sg_90_2 (hp1 := zStp_5)]
      simp (disch := first | assumption | omega) only [jmT, hu]
      rw [if_neg (by rw [jI_le (by omega) (by omega) (by omega) (by omega)]; omega), sp_53 zStp_5 (by omega) c3']
      simp only [zk_l, zk_r, Option.toList_some, Option.toList_none, List.cons_append, List.nil_append, zrokB, zrokB0, zrokB1, zrokJ0, zrokJ1, and_true, true_and, and_self, if_true, if_false, b2_0, b2_1, b2_not, ite_self]
      rw [sg_90_15 (hp1 := zStp_5) (hqt0 := hcb)]
      -- the columns
      have cols : ∀ (r : Nat), r < (gR s i).toNat → ∀ R : Prop, (∀ x5 : Value, wz W 90 19 [.ref 4, .ref 5, .int (jI i), .ref (5 + 19 + (i : Int).toNat), .int (jI (r + 1 : Nat)), x5] [] (jm (cT 4 0 1 2 J (dors s i ++ dor s i ((r + 1) * (gC s i).toNat)))) Q = R) → ∀ n : Nat, n ≤ (gC s i).toNat → wz W 90 31 [.ref 4, .ref 5, .int (jI i), .ref (5 + 19 + (i : Int).toNat), .int (jI r), .int (jI ((gC s i).toNat - n : Nat))] [] (jm (cT 4 0 1 2 J (dors s i ++ dor s i (r * (gC s i).toNat + ((gC s i).toNat - n))))) Q = R := by
        intro r hr R hR n
        have hrs : (r + 1) * (gC s i).toNat = r * (gC s i).toNat + (gC s i).toNat := Nat.succ_mul _ _
        have hle : (r + 1) * (gC s i).toNat ≤ nC s i := by rw [hrw]; exact Nat.mul_le_mul_right _ (by omega)
        induction n with
        | zero =>
          intro _
          rw [sg_90_31 (hp1 := zStp_5) (hqx3 := hcb)]
          simp (disch := first | assumption | omega) only [jmT, f2]
          rw [if_pos (by rw [jI_le (by omega) (by omega) (by omega) (by omega)]; omega), jI_add, Nat.sub_zero, ← hrs]
          exact hR _
        | succ n ih2 =>
          intro hn
          have ih2 := ih2 (by omega)
          have hl2 : (gC s i).toNat - n = ((gC s i).toNat - (n + 1)) + 1 := by omega
          rw [hl2] at ih2
          have hll : (gC s i).toNat - (n + 1) < (gC s i).toNat := by omega
          generalize (gC s i).toNat - (n + 1) = l at *
          have hmul : ((r * (gC s i).toNat + l : Nat) : Int) = (r : Int) * gC s i + l := by rw [Int.natCast_add, Int.natCast_mul, hwn]
          have hdv : ((r * (gC s i).toNat + l : Nat) : Int) / gC s i = r ∧ ((r * (gC s i).toNat + l : Nat) : Int) % gC s i = l := by
            rw [hmul]
            obtain h | h | h | h : gC s i = 1 ∨ gC s i = 2 ∨ gC s i = 3 ∨ gC s i = 4 := by omega
            all_goals
              rw [h] at hll ⊢
              omega
          have hdo : dor s i (r * (gC s i).toNat + (l + 1)) = dor s i (r * (gC s i).toNat + l) ++ (if drs s i ((r * (gC s i).toNat + l : Nat) : Int) = true then [doT s i ((r * (gC s i).toNat + l : Nat) : Int)] else []) := rfl
          rw [hdo] at ih2
          rw [sg_90_31 (hp1 := zStp_5) (hqx3 := hcb)]
          simp (disch := first | assumption | omega) only [jmT, f2, f4]
          rw [if_neg (by rw [jI_le (by omega) (by omega) (by omega) (by omega)]; omega), jI_mul, jI_add, ← hmul, sp_167 (by omega) (by omega)]
          simp only [zk_l, zk_r, Option.toList_some, Option.toList_none, List.cons_append, List.nil_append, zrokB, zrokB0, zrokB1, zrokJ0, zrokJ1, and_true, true_and, and_self, if_true, if_false, b2_0, b2_1, b2_not, ite_self]
          have hb9 : bt (jI (s (12 + 8 * (i : Int) + 6))) ((r * (gC s i).toNat + l : Nat) : Int).toNat = drs s i ((r * (gC s i).toNat + l : Nat) : Int) := rfl
          rw [hb9, sg_90_57 (hp1 := zStp_5) (hqx3 := hcb)]
          cases hdr : drs s i ((r * (gC s i).toNat + l : Nat) : Int)
          · rw [hdr, if_neg (by decide), List.append_nil] at ih2
            rw [if_pos (by decide), sg_90_86 (hp1 := zStp_5) (hqx3 := hcb), jI_add]
            exact ih2
          · rw [hdr, if_pos rfl, ← List.append_assoc, cT_1] at ih2
            rw [if_neg (by decide), sp_94 (i := 1) (by decide)]
            simp only [zk_l, zk_r, Option.toList_some, Option.toList_none, List.cons_append, List.nil_append, zrokB, zrokB0, zrokB1, zrokJ0, zrokJ1, and_true, true_and, and_self, if_true, if_false, b2_0, b2_1, b2_not, ite_self]
            rw [sg_90_66 (hp1 := zStp_5) (hqx3 := hcb)]
            simp (disch := first | assumption | omega) only [jmS, jmT, f0]
            rw [sp_95]
            simp only [zk_l, zk_r, Option.toList_some, Option.toList_none, List.cons_append, List.nil_append, zrokB, zrokB0, zrokB1, zrokJ0, zrokJ1, and_true, true_and, and_self, if_true, if_false, b2_0, b2_1, b2_not, ite_self]
            rw [cS_cw, sg_90_74 (hp1 := zStp_5) (hqx3 := hcb), sp_96 (by omega) (by omega)]
            simp only [zk_l, zk_r, Option.toList_some, Option.toList_none, List.cons_append, List.nil_append, zrokB, zrokB0, zrokB1, zrokJ0, zrokJ1, and_true, true_and, and_self, if_true, if_false, b2_0, b2_1, b2_not, ite_self]
            rw [cS_cw, sg_90_80 (hp1 := zStp_5) (hqx3 := hcb), sp_96 (by omega) (by omega)]
            simp only [zk_l, zk_r, Option.toList_some, Option.toList_none, List.cons_append, List.nil_append, zrokB, zrokB0, zrokB1, zrokJ0, zrokJ1, and_true, true_and, and_self, if_true, if_false, b2_0, b2_1, b2_not, ite_self]
            rw [cS_cw, sg_90_86 (hp1 := zStp_5) (hqx3 := hcb), jI_add]
            refine Eq.trans ?_ ih2
            unfold doT
            rw [hdv.1, hdv.2]
            rfl
      have rows : ∀ (n : Nat), n ≤ (gR s i).toNat → ∀ x5 : Value, wz W 90 19 [.ref 4, .ref 5, .int (jI i), .ref (5 + 19 + (i : Int).toNat), .int (jI ((gR s i).toNat - n : Nat)), x5] [] (jm (cT 4 0 1 2 J (dors s i ++ dor s i (((gR s i).toNat - n) * (gC s i).toNat)))) Q = Q oV (jm (cT 4 0 1 2 J (dors s (s 4).toNat))) := by
        intro n
        induction n with
        | zero =>
          intro _ x5
          rw [sg_90_19 (hp1 := zStp_5) (hqx3 := hcb)]
          simp (disch := first | assumption | omega) only [jmT, f1]
          rw [if_pos (by rw [jI_le (by omega) (by omega) (by omega) (by omega)]; omega), jI_add, Nat.sub_zero, ← hrw]
          exact ih _ _ _
        | succ n ih3 =>
          intro hn x5
          rw [sg_90_19 (hp1 := zStp_5) (hqx3 := hcb)]
          simp (disch := first | assumption | omega) only [jmT, f1]
          rw [if_neg (by rw [jI_le (by omega) (by omega) (by omega) (by omega)]; omega)]
          have h0 := cols ((gR s i).toNat - (n + 1)) (by omega) (Q oV (jm (cT 4 0 1 2 J (dors s (s 4).toNat)))) (fun x5 => by
            have := ih3 (by omega) x5
            rw [show (gR s i).toNat - n = (gR s i).toNat - (n + 1) + 1 by omega] at this
            exact this) (gC s i).toNat (Nat.le_refl _)
          rw [Nat.sub_self, Nat.add_zero] at h0
          exact h0
      have h0 := rows (gR s i).toNat (Nat.le_refl _) x5
      rw [Nat.sub_self, Nat.zero_mul] at h0
      have e0 : dors s i ++ dor s i 0 = dors s i := List.append_nil _
      rw [e0] at h0
      exact h0
  rw [sg_90_0 (hp1 := zStp_5)]
  have h0 := outer (s 4).toNat (Nat.le_refl _) (.float 0) (.float 0) (.float 0)
  rw [Nat.sub_self] at h0
  exact h0
def xv91 : Nat → Value
  | 0 => .float 0
  | i + 1 => .ref (5 + 13 + i)
theorem sp_91 (hx : CX J 49 s D k) : wz W 91 0 [.ref 4, .ref 5, .float 0, .float 0] [] (jm J) Q = Q oV (jm (cT 4 0 1 2 J (gds s (s 5).toNat))) := by
  obtain ⟨hb, hS, hU, hK, hDD, hD, hk⟩ := hx
  obtain ⟨b1, b2x, b3, b4, b5, b6, b7, b8, b9, b10, b11, b12⟩ := hK.1
  have hu : jm J 5 0 = jI (s 5) := congrArg jI hU.1
  have key := zloop (f := fun i => wz W 91 2 [.ref 4, .ref 5, .int (jI i), xv91 i] [] (jm (cT 4 0 1 2 J (gds s i))) Q) (s 5).toNat (fun i hi => by
    try simp only
    obtain ⟨d1, d2, d3, d4, d5, d6, d7, d8, d9, d10, d11⟩ := hK.2.2.1 i (by omega) (by omega)
    obtain ⟨g0, hcb, g2, g3, g4, g5, g6, g7, g8⟩ := RU_g hU hK (g := i) (by omega) (by omega)
    have f1 : jm J (5 + 13 + (i : Int).toNat) 1 = jI (s (36 + 6 * (i : Int))) := congrArg jI g3
    have f2 : jm J (5 + 13 + (i : Int).toNat) 2 = jI (s (36 + 6 * (i : Int) + 1)) := congrArg jI g4
    have f3 : jm J (5 + 13 + (i : Int).toNat) 3 = jI (s (36 + 6 * (i : Int) + 2)) := congrArg jI g5
    have f4 : jm J (5 + 13 + (i : Int).toNat) 4 = jI (s (36 + 6 * (i : Int) + 3)) := congrArg jI g6
    have f5 : jm J (5 + 13 + (i : Int).toNat) 5 = jI (s (36 + 6 * (i : Int) + 4)) := congrArg jI g7
    have f6 : jm J (5 + 13 + (i : Int).toNat) 6 = jI (s (36 + 6 * (i : Int) + 5)) := congrArg jI g8
    rw [sg_91_2 (hp1 := zStp_5)]
    simp (disch := first | assumption | omega) only [jmT, hu]
    rw [if_neg (by rw [jI_le (by omega) (by omega) (by omega) (by omega)]; omega), sp_52 zStp_5 (by omega) g0]
    simp only [zk_l, zk_r, Option.toList_some, Option.toList_none, List.cons_append, List.nil_append, zrokB, zrokB0, zrokB1, zrokJ0, zrokJ1, and_true, true_and, and_self, if_true, if_false, b2_0, b2_1, b2_not, ite_self]
    rw [sg_91_15 (hp1 := zStp_5) (hqt0 := hcb), sp_94 (i := 2) (by decide)]
    simp only [zk_l, zk_r, Option.toList_some, Option.toList_none, List.cons_append, List.nil_append, zrokB, zrokB0, zrokB1, zrokJ0, zrokJ1, and_true, true_and, and_self, if_true, if_false, b2_0, b2_1, b2_not, ite_self]
    rw [sg_91_22 (hp1 := zStp_5) (hqx3 := hcb)]
    simp (disch := first | assumption | omega) only [jmS, jmT, f1]
    rw [sp_95]
    simp only [zk_l, zk_r, Option.toList_some, Option.toList_none, List.cons_append, List.nil_append, zrokB, zrokB0, zrokB1, zrokJ0, zrokJ1, and_true, true_and, and_self, if_true, if_false, b2_0, b2_1, b2_not, ite_self]
    rw [cS_cw, sg_91_30 (hp1 := zStp_5) (hqx3 := hcb)]
    simp (disch := first | assumption | omega) only [jmS, jmT, f2]
    rw [sp_96 (by omega) (by omega)]
    simp only [zk_l, zk_r, Option.toList_some, Option.toList_none, List.cons_append, List.nil_append, zrokB, zrokB0, zrokB1, zrokJ0, zrokJ1, and_true, true_and, and_self, if_true, if_false, b2_0, b2_1, b2_not, ite_self]
    rw [cS_cw, sg_91_38 (hp1 := zStp_5) (hqx3 := hcb)]
    simp (disch := first | assumption | omega) only [jmS, jmT, f3]
    rw [sp_96 (by omega) (by omega)]
    simp only [zk_l, zk_r, Option.toList_some, Option.toList_none, List.cons_append, List.nil_append, zrokB, zrokB0, zrokB1, zrokJ0, zrokJ1, and_true, true_and, and_self, if_true, if_false, b2_0, b2_1, b2_not, ite_self]
    rw [cS_cw, sg_91_46 (hp1 := zStp_5) (hqx3 := hcb)]
    simp (disch := first | assumption | omega) only [jmS, jmT, f4]
    rw [sp_96 (by omega) (by omega)]
    simp only [zk_l, zk_r, Option.toList_some, Option.toList_none, List.cons_append, List.nil_append, zrokB, zrokB0, zrokB1, zrokJ0, zrokJ1, and_true, true_and, and_self, if_true, if_false, b2_0, b2_1, b2_not, ite_self]
    rw [cS_cw, sg_91_54 (hp1 := zStp_5) (hqx3 := hcb)]
    simp (disch := first | assumption | omega) only [jmS, jmT, f5]
    rw [sp_96 (by omega) (by omega)]
    simp only [zk_l, zk_r, Option.toList_some, Option.toList_none, List.cons_append, List.nil_append, zrokB, zrokB0, zrokB1, zrokJ0, zrokJ1, and_true, true_and, and_self, if_true, if_false, b2_0, b2_1, b2_not, ite_self]
    rw [cS_cw, sg_91_62 (hp1 := zStp_5) (hqx3 := hcb)]
    simp (disch := first | assumption | omega) only [jmS, jmT, f6]
    rw [sp_96 (by omega) (by omega)]
    simp only [zk_l, zk_r, Option.toList_some, Option.toList_none, List.cons_append, List.nil_append, zrokB, zrokB0, zrokB1, zrokJ0, zrokJ1, and_true, true_and, and_self, if_true, if_false, b2_0, b2_1, b2_not, ite_self]
    rw [cS_cw, sg_91_70 (hp1 := zStp_5) (hqx3 := hcb), jI_add, show gds s (i + 1) = gds s i ++ [gdT s i] from rfl, cT_1]
    rfl)
  rw [sg_91_0 (hp1 := zStp_5)]
  refine Eq.trans key ?_
  rw [sg_91_2 (hp1 := zStp_5)]
  simp (disch := first | assumption | omega) only [jmT, hu]
  rw [if_pos (by rw [jI_le (by omega) (by omega) (by omega) (by omega)]; omega)]
theorem sp_92 (hx : CX J 49 s D k) : wz W 92 0 [.ref 4, .ref 49, .float 0] [] (jm J) Q = Q oV (jm (cT 4 0 1 2 J (pls s (s 8).toNat))) := by
  have hx' := hx
  obtain ⟨hb, hS, hU, hK, ⟨⟨a1, a2, a3, a4, a5, a6⟩, hT, hV, hP, hW, hL, hQ, hN⟩, hD, hk⟩ := hx
  have hu : jm J 49 11 = jI (s 8) := congrArg jI hS.2.2.1
  have key := zloop (f := fun i => wz W 92 2 [.ref 4, .ref 49, .int (jI i)] [] (jm (cT 4 0 1 2 J (pls s i))) Q) (s 8).toNat (fun i hi => by
    try simp only
    obtain ⟨q1, q2, q3⟩ := hQ.1 i (by omega) (by omega)
    obtain ⟨p1, p2, -⟩ := hP _ q1 q2
    obtain ⟨g0, hcb, g2, g3, g4, g5, g6, g7, g8⟩ := RU_g hU hK p1 p2
    have e1 := hS.2.2.2.2.1 i (by omega) (by omega)
    have f1 : jm J (5 + 13 + (s (72 + 7 * s (392 + (i : Int)))).toNat) 1 = jI (s (36 + 6 * s (72 + 7 * s (392 + (i : Int))))) := congrArg jI g3
    rw [sg_92_2 (hp1 := zStk_49)]
    simp (disch := first | assumption | omega) only [jmT, hu]
    rw [if_neg (by rw [jI_le (by omega) (by omega) (by omega) (by omega)]; omega), sp_94 (i := 3) (by decide)]
    simp only [zk_l, zk_r, Option.toList_some, Option.toList_none, List.cons_append, List.nil_append, zrokB, zrokB0, zrokB1, zrokJ0, zrokJ1, and_true, true_and, and_self, if_true, if_false, b2_0, b2_1, b2_not, ite_self]
    rw [sg_92_16 (hp1 := zStk_49), sp_45 (zStk_r12 zStk_49) (by omega) (by omega) (by decide), cS_ne (by decide), cT_ne (by decide), e1]
    simp only [zk_l, zk_r, Option.toList_some, Option.toList_none, List.cons_append, List.nil_append, zrokB, zrokB0, zrokB1, zrokJ0, zrokJ1, and_true, true_and, and_self, if_true, if_false, b2_0, b2_1, b2_not, ite_self]
    rw [sg_92_26 (hp1 := zStk_49), sp_70 (cx4 hx' (fun q h => by rw [cS_ne h, cT_ne h])) q1 q2]
    simp only [zk_l, zk_r, Option.toList_some, Option.toList_none, List.cons_append, List.nil_append, zrokB, zrokB0, zrokB1, zrokJ0, zrokJ1, and_true, true_and, and_self, if_true, if_false, b2_0, b2_1, b2_not, ite_self]
    rw [sg_92_29 (hp1 := zStk_49) (hqt1 := hcb)]
    simp (disch := first | assumption | omega) only [jmS, jmT, f1]
    rw [sp_95]
    simp only [zk_l, zk_r, Option.toList_some, Option.toList_none, List.cons_append, List.nil_append, zrokB, zrokB0, zrokB1, zrokJ0, zrokJ1, and_true, true_and, and_self, if_true, if_false, b2_0, b2_1, b2_not, ite_self]
    rw [cS_cw, sg_92_35 (hp1 := zStk_49), jI_add, show pls s (i + 1) = pls s i ++ [plT s i] from rfl, cT_1]
    rfl)
  rw [sg_92_0 (hp1 := zStk_49)]
  refine Eq.trans key ?_
  rw [sg_92_2 (hp1 := zStk_49)]
  simp (disch := first | assumption | omega) only [jmT, hu]
  rw [if_pos (by rw [jI_le (by omega) (by omega) (by omega) (by omega)]; omega)]
theorem sp_93 (hx : CX J 49 s D k) : wz W 93 0 [.ref 4, .ref 5, .ref 49, .float 0] [] (jm J) Q = Q oV (jm (cT 4 0 1 2 J (ors s (s 7).toNat))) := by
  obtain ⟨hb, hS, hU, hK, ⟨hA, hT, hV, hP, hW, hL, hQ, hN⟩, hD, hk⟩ := hx
  obtain ⟨b1, b2x, b3, b4, b5, b6, b7, b8, b9, b10, b11, b12⟩ := hK.1
  have hu : jm J 5 6 = jI (s 7) := congrArg jI hU.2.2.1
  have key := zloop (f := fun i => wz W 93 2 [.ref 4, .ref 5, .ref 49, .int (jI i)] [] (jm (cT 4 0 1 2 J (ors s i))) Q) (s 7).toNat (fun i hi => by
    try simp only
    obtain ⟨o1, o2, o3, o4, o5, o6⟩ := hK.2.2.2 i (by omega) (by omega)
    have hv := hV i (by omega) (by omega)
    obtain ⟨g0, hcb, g2, g3, g4, g5, g6, g7, g8⟩ := RU_g hU hK o1 o2
    have e1 := hS.2.2.2.2.2.2 i (by omega) (by omega)
    obtain ⟨u1, u2, u3⟩ := hU.2.2.2.2.2.2.2.2.2 i (by omega) (by omega)
    have f1 : jm J (5 + 13 + (s (352 + 4 * (i : Int))).toNat) 1 = jI (s (36 + 6 * s (352 + 4 * (i : Int)))) := congrArg jI g3
    have hor : ors s (i + 1) = ors s i ++ (if s (352 + 4 * (i : Int) + 3) = 0 then [orT s i] else []) := rfl
    rw [sg_93_2 (hp1 := zStp_5) (hp2 := zStk_49)]
    simp (disch := first | assumption | omega) only [jmT, hu]
    rw [if_neg (by rw [jI_le (by omega) (by omega) (by omega) (by omega)]; omega), sp_45 (zStk_r16 zStk_49) (by omega) (by omega) (by decide), cT_ne (by decide), e1]
    simp only [zk_l, zk_r, Option.toList_some, Option.toList_none, List.cons_append, List.nil_append, zrokB, zrokB0, zrokB1, zrokJ0, zrokJ1, and_true, true_and, and_self, if_true, if_false, b2_0, b2_1, b2_not, ite_self]
    rw [sg_93_18 (hp1 := zStp_5) (hp2 := zStk_49), hor]
    by_cases q : s (352 + 4 * (i : Int) + 3) = 0
    · rw [if_pos (by rw [q]; rfl), if_pos q, sp_94 (i := 4) (by decide)]
      simp only [zk_l, zk_r, Option.toList_some, Option.toList_none, List.cons_append, List.nil_append, zrokB, zrokB0, zrokB1, zrokJ0, zrokJ1, and_true, true_and, and_self, if_true, if_false, b2_0, b2_1, b2_not, ite_self]
      rw [sg_93_27 (hp1 := zStp_5) (hp2 := zStk_49), sp_45 (zStp_r7 zStp_5) (by omega) (by omega) (by decide), cS_ne (by decide), cT_ne (by decide), u1]
      simp only [zk_l, zk_r, Option.toList_some, Option.toList_none, List.cons_append, List.nil_append, zrokB, zrokB0, zrokB1, zrokJ0, zrokJ1, and_true, true_and, and_self, if_true, if_false, b2_0, b2_1, b2_not, ite_self]
      rw [sg_93_37 (hp1 := zStp_5) (hp2 := zStk_49), sp_52 zStp_5 o1 g0]
      simp only [zk_l, zk_r, Option.toList_some, Option.toList_none, List.cons_append, List.nil_append, zrokB, zrokB0, zrokB1, zrokJ0, zrokJ1, and_true, true_and, and_self, if_true, if_false, b2_0, b2_1, b2_not, ite_self]
      rw [sg_93_40 (hp1 := zStp_5) (hp2 := zStk_49) (hqt1 := hcb)]
      simp (disch := first | assumption | omega) only [jmS, jmT, f1]
      rw [sp_95]
      simp only [zk_l, zk_r, Option.toList_some, Option.toList_none, List.cons_append, List.nil_append, zrokB, zrokB0, zrokB1, zrokJ0, zrokJ1, and_true, true_and, and_self, if_true, if_false, b2_0, b2_1, b2_not, ite_self]
      rw [cS_cw, sg_93_46 (hp1 := zStp_5) (hp2 := zStk_49), sp_45 (zStp_r8 zStp_5) (by omega) (by omega) (by decide), cS_ne (by decide), cT_ne (by decide), u2]
      simp only [zk_l, zk_r, Option.toList_some, Option.toList_none, List.cons_append, List.nil_append, zrokB, zrokB0, zrokB1, zrokJ0, zrokJ1, and_true, true_and, and_self, if_true, if_false, b2_0, b2_1, b2_not, ite_self]
      rw [sg_93_55 (hp1 := zStp_5) (hp2 := zStk_49), sp_96 (by omega) (by omega)]
      simp only [zk_l, zk_r, Option.toList_some, Option.toList_none, List.cons_append, List.nil_append, zrokB, zrokB0, zrokB1, zrokJ0, zrokJ1, and_true, true_and, and_self, if_true, if_false, b2_0, b2_1, b2_not, ite_self]
      rw [cS_cw, sg_93_58 (hp1 := zStp_5) (hp2 := zStk_49), sp_45 (zStp_r9 zStp_5) (by omega) (by omega) (by decide), cS_ne (by decide), cT_ne (by decide), u3]
      simp only [zk_l, zk_r, Option.toList_some, Option.toList_none, List.cons_append, List.nil_append, zrokB, zrokB0, zrokB1, zrokJ0, zrokJ1, and_true, true_and, and_self, if_true, if_false, b2_0, b2_1, b2_not, ite_self]
      rw [sg_93_67 (hp1 := zStp_5) (hp2 := zStk_49), sp_96 (by omega) (by omega)]
      simp only [zk_l, zk_r, Option.toList_some, Option.toList_none, List.cons_append, List.nil_append, zrokB, zrokB0, zrokB1, zrokJ0, zrokJ1, and_true, true_and, and_self, if_true, if_false, b2_0, b2_1, b2_not, ite_self]
      rw [cS_cw, sg_93_70 (hp1 := zStp_5) (hp2 := zStk_49), jI_add, cT_1]
      rfl
    · rw [if_neg (by rw [jI_eq0 (by omega) (by omega)]; exact q), if_neg q, sg_93_70 (hp1 := zStp_5) (hp2 := zStk_49), jI_add, List.append_nil]
      rfl)
  rw [sg_93_0 (hp1 := zStp_5) (hp2 := zStk_49)]
  refine Eq.trans key ?_
  rw [sg_93_2 (hp1 := zStp_5) (hp2 := zStk_49)]
  simp (disch := first | assumption | omega) only [jmT, hu]
  rw [if_pos (by rw [jI_le (by omega) (by omega) (by omega) (by omega)]; omega)]
/-- the writer, started -/
def w0C (J : zJ) (n : Int) : zJ := jrow J 4 (sset (sset (sset (J 4) 0 0) 1 n) 2 (-1))
theorem w0C_ne {q : Nat} {n : Int} (h : q ≠ 4) : w0C J n q = J q := jrow_ne h
theorem sp_88 (hx : CX J 49 s D k) {n : Int} (n0 : -2147483648 ≤ n) (n1 : n < 2147483648) : wz W 88 0 [.ref 4, .ref 5, .ref 49, .int (jI n)] [] (jm J) Q = Q (oI (cT 4 0 1 2 (w0C J n) (txT s) 4 0)) (jm (cT 4 0 1 2 (w0C J n) (txT s))) := by
  have hK := hx.2.2.2.1
  obtain ⟨b1, b2x, b3, b4, b5, b6, b7, b8, b9, b10, b11, b12⟩ := hK.1
  have hU := hx.2.2.1
  have hu12 : jm J 5 12 = jI (s 1) := congrArg jI hU.2.2.2.1
  have hu13 : jm J 5 13 = jI (s 2) := congrArg jI hU.2.2.2.2.1
  have hu14 : jm J 5 14 = jI (s 3) := congrArg jI hU.2.2.2.2.2.1
  have jmw : ∀ q, q ≠ 4 → jm (w0C J n) q = jm J q := fun q h => by funext x; show jI _ = jI _; rw [w0C_ne h]
  rw [sg_88_0 (hp1 := zStp_5) (hp2 := zStk_49)]
  have e0 : zset (zset (zset (jm J) 4 0 (jI 0)) 4 1 (jI n)) 4 2 (jI (-1)) = jm (w0C J n) := by
    simp (disch := first | assumption | omega) only [jI_cl, jm_n, jz_n, i_lit, i_c0, i_c1, Int.toNat_of_nonneg, Int.toNat_natCast, jrow_same, jrow_ne, jrow_jrow, sset_eq, sset_ne]
    rfl
  rw [e0, sp_89 (cx4 hx (fun q h => w0C_ne h))]
  simp only [zk_l, zk_r, Option.toList_some, Option.toList_none, List.cons_append, List.nil_append, zrokB, zrokB0, zrokB1, zrokJ0, zrokJ1, and_true, true_and, and_self, if_true, if_false, b2_0, b2_1, b2_not, ite_self]
  rw [sg_88_21 (hp1 := zStp_5) (hp2 := zStk_49), sp_90 (cx4 hx (fun q h => by rw [cT_ne h, w0C_ne h])), ← cT_app]
  simp only [zk_l, zk_r, Option.toList_some, Option.toList_none, List.cons_append, List.nil_append, zrokB, zrokB0, zrokB1, zrokJ0, zrokJ1, and_true, true_and, and_self, if_true, if_false, b2_0, b2_1, b2_not, ite_self]
  rw [sg_88_26 (hp1 := zStp_5) (hp2 := zStk_49), sp_91 (cx4 hx (fun q h => by rw [cT_ne h, w0C_ne h])), ← cT_app]
  simp only [zk_l, zk_r, Option.toList_some, Option.toList_none, List.cons_append, List.nil_append, zrokB, zrokB0, zrokB1, zrokJ0, zrokJ1, and_true, true_and, and_self, if_true, if_false, b2_0, b2_1, b2_not, ite_self]
  rw [sg_88_31 (hp1 := zStp_5) (hp2 := zStk_49), sp_92 (cx4 hx (fun q h => by rw [cT_ne h, w0C_ne h])), ← cT_app]
  simp only [zk_l, zk_r, Option.toList_some, Option.toList_none, List.cons_append, List.nil_append, zrokB, zrokB0, zrokB1, zrokJ0, zrokJ1, and_true, true_and, and_self, if_true, if_false, b2_0, b2_1, b2_not, ite_self]
  rw [sg_88_36 (hp1 := zStp_5) (hp2 := zStk_49), sp_93 (cx4 hx (fun q h => by rw [cT_ne h, w0C_ne h])), ← cT_app]
  simp only [zk_l, zk_r, Option.toList_some, Option.toList_none, List.cons_append, List.nil_append, zrokB, zrokB0, zrokB1, zrokJ0, zrokJ1, and_true, true_and, and_self, if_true, if_false, b2_0, b2_1, b2_not, ite_self]
  have quay : ∀ l : List (List Int32), wz W 88 82 [.ref 4, .ref 5, .ref 49, .int (jI n)] [] (jm (cT 4 0 1 2 (w0C J n) l)) Q = Q (oI (cT 4 0 1 2 (w0C J n) (l ++ qyT s) 4 0)) (jm (cT 4 0 1 2 (w0C J n) (l ++ qyT s))) := by
    intro l
    rw [sg_88_82 (hp1 := zStp_5) (hp2 := zStk_49)]
    simp (disch := first | assumption | omega) only [jmT, jmw, hu14]
    unfold qyT
    by_cases q : s 3 = 12
    · rw [if_pos (by rw [q]), if_pos q, sg_88_105 (hp1 := zStp_5) (hp2 := zStk_49), List.append_nil]
      rfl
    · rw [if_neg (by rw [jI_eq (by omega) (by omega) (by omega) (by omega)]; exact q), if_neg q, sp_94 (i := 6) (by decide)]
      simp only [zk_l, zk_r, Option.toList_some, Option.toList_none, List.cons_append, List.nil_append, zrokB, zrokB0, zrokB1, zrokJ0, zrokJ1, and_true, true_and, and_self, if_true, if_false, b2_0, b2_1, b2_not, ite_self]
      rw [sg_88_97 (hp1 := zStp_5) (hp2 := zStk_49)]
      simp (disch := first | assumption | omega) only [jmS, jmT, jmw, hu14]
      rw [sp_96 (by omega) (by omega)]
      simp only [zk_l, zk_r, Option.toList_some, Option.toList_none, List.cons_append, List.nil_append, zrokB, zrokB0, zrokB1, zrokJ0, zrokJ1, and_true, true_and, and_self, if_true, if_false, b2_0, b2_1, b2_not, ite_self]
      rw [cS_cw, sg_88_105 (hp1 := zStp_5) (hp2 := zStk_49), cT_1]
      rfl
  have lim : wz W 88 60 [.ref 4, .ref 5, .ref 49, .int (jI n)] [] (jm (cT 4 0 1 2 (w0C J n) (chs s (s 4).toNat ++ dors s (s 4).toNat ++ gds s (s 5).toNat ++ pls s (s 8).toNat ++ ors s (s 7).toNat))) Q = Q (oI (cT 4 0 1 2 (w0C J n) (chs s (s 4).toNat ++ dors s (s 4).toNat ++ gds s (s 5).toNat ++ pls s (s 8).toNat ++ ors s (s 7).toNat ++ [wdL 5 ++ nuL (s 1) ++ nuL (s 2)] ++ qyT s) 4 0)) (jm (cT 4 0 1 2 (w0C J n) (chs s (s 4).toNat ++ dors s (s 4).toNat ++ gds s (s 5).toNat ++ pls s (s 8).toNat ++ ors s (s 7).toNat ++ [wdL 5 ++ nuL (s 1) ++ nuL (s 2)] ++ qyT s))) := by
    rw [sg_88_60 (hp1 := zStp_5) (hp2 := zStk_49), sp_94 (i := 5) (by decide)]
    simp only [zk_l, zk_r, Option.toList_some, Option.toList_none, List.cons_append, List.nil_append, zrokB, zrokB0, zrokB1, zrokJ0, zrokJ1, and_true, true_and, and_self, if_true, if_false, b2_0, b2_1, b2_not, ite_self]
    rw [sg_88_66 (hp1 := zStp_5) (hp2 := zStk_49)]
    simp (disch := first | assumption | omega) only [jmS, jmT, jmw, hu12]
    rw [sp_96 (by omega) (by omega)]
    simp only [zk_l, zk_r, Option.toList_some, Option.toList_none, List.cons_append, List.nil_append, zrokB, zrokB0, zrokB1, zrokJ0, zrokJ1, and_true, true_and, and_self, if_true, if_false, b2_0, b2_1, b2_not, ite_self]
    rw [cS_cw, sg_88_74 (hp1 := zStp_5) (hp2 := zStk_49)]
    simp (disch := first | assumption | omega) only [jmS, jmT, jmw, hu13]
    rw [sp_96 (by omega) (by omega)]
    simp only [zk_l, zk_r, Option.toList_some, Option.toList_none, List.cons_append, List.nil_append, zrokB, zrokB0, zrokB1, zrokJ0, zrokJ1, and_true, true_and, and_self, if_true, if_false, b2_0, b2_1, b2_not, ite_self]
    rw [cS_cw, ← cT_1, quay]
  have htx : txT s = chs s (s 4).toNat ++ dors s (s 4).toNat ++ gds s (s 5).toNat ++ pls s (s 8).toNat ++ ors s (s 7).toNat ++ lmT s ++ qyT s := rfl
  rw [sg_88_42 (hp1 := zStp_5) (hp2 := zStk_49)]
  simp (disch := first | assumption | omega) only [jmT, jmw, hu12, hu13]
  rw [htx]
  unfold lmT
  by_cases q1 : s 1 = 100
  · rw [if_pos (by rw [q1])]
    by_cases q2 : s 2 = 10
    · rw [if_pos (by rw [q2]), if_pos ⟨q1, q2⟩, List.append_nil, quay]
    · rw [if_neg (by rw [jI_eq (by omega) (by omega) (by omega) (by omega)]; exact q2), if_neg (fun h => q2 h.2), lim]
  · rw [if_neg (by rw [jI_eq (by omega) (by omega) (by omega) (by omega)]; exact q1), if_neg (fun h => q1 h.1), lim]
end
