/-! ===== the written text ===== -/
/-- one byte more; the numbers of the fields: length, wanted, byte -/
def wq (a b c : Int) (f : Int → Int) (x : Int32) : Int → Int := sset (if jI (f a) = jI (f b) then sset f c x.toInt else f) a (f a + 1)
def wL (a b c : Int) (f : Int → Int) (l : List Int32) : Int → Int := l.foldl (wq a b c) f
def cw (p : Nat) (a b c : Int) (J : zJ) (l : List Int32) : zJ := jrow J p (wL a b c (J p) l)
theorem cw_cw {p : Nat} {a b c : Int} {J : zJ} (l m : List Int32) : cw p a b c (cw p a b c J l) m = cw p a b c J (l ++ m) := by
  unfold cw wL
  rw [jrow_jrow, jrow_same, List.foldl_append]
theorem cw_nil {p : Nat} {a b c : Int} {J : zJ} : cw p a b c J [] = J := jrow_id
theorem cw_ne {p q : Nat} {a b c : Int} {J : zJ} {l : List Int32} (h : q ≠ p) : cw p a b c J l q = J q := jrow_ne h
/-- what separates two statements -/
def sp9 (f : Int) : List Int32 := if jI f ≤ 0 then [] else [jI 59]
/-- one statement more -/
def cS (p : Nat) (a b c : Int) (J : zJ) (st : List Int32) : zJ := cw p a b c J (sp9 (J p a) ++ st)
theorem cS_cw {p : Nat} {a b c : Int} {J : zJ} (l m : List Int32) : cw p a b c (cS p a b c J l) m = cS p a b c J (l ++ m) := by
  unfold cS
  rw [cw_cw, List.append_assoc]
theorem cS_ne {p q : Nat} {a b c : Int} {J : zJ} {l : List Int32} (h : q ≠ p) : cS p a b c J l q = J q := cw_ne h
def cT (p : Nat) (a b c : Int) (J : zJ) (l : List (List Int32)) : zJ := l.foldl (cS p a b c) J
theorem cT_ne {p q : Nat} {a b c : Int} (h : q ≠ p) : ∀ (l : List (List Int32)) (J : zJ), cT p a b c J l q = J q := by
  intro l
  induction l with
  | nil => intro J; rfl
  | cons x l ih => intro J; exact (ih _).trans (cS_ne h)
theorem cT_app {p : Nat} {a b c : Int} {J : zJ} (l m : List (List Int32)) : cT p a b c J (l ++ m) = cT p a b c (cT p a b c J l) m := List.foldl_append ..
theorem cT_1 {p : Nat} {a b c : Int} {J : zJ} (l : List (List Int32)) (x : List Int32) : cT p a b c J (l ++ [x]) = cS p a b c (cT p a b c J l) x := by
  rw [cT_app]
  rfl
/-- other fields of the row -/
theorem wL_fr {a b c i : Int} (h1 : i ≠ a) (h2 : i ≠ c) : ∀ (l : List Int32) (f : Int → Int), wL a b c f l i = f i := by
  intro l
  induction l with
  | nil => intro f; rfl
  | cons x l ih =>
    intro f
    refine (ih (wq a b c f x)).trans ?_
    unfold wq
    rw [sset_ne h1]
    split
    · exact sset_ne h2
    · rfl
theorem cS_fr {p : Nat} {a b c i : Int} {J : zJ} {st : List Int32} (h1 : i ≠ a) (h2 : i ≠ c) : cS p a b c J st p i = J p i := by
  unfold cS cw
  rw [jrow_same]
  exact wL_fr h1 h2 _ _
theorem cT_fr {p : Nat} {a b c i : Int} (h1 : i ≠ a) (h2 : i ≠ c) : ∀ (l : List (List Int32)) (J : zJ), cT p a b c J l p i = J p i := by
  intro l
  induction l with
  | nil => intro J; rfl
  | cons x l ih => intro J; exact (ih _).trans (cS_fr h1 h2)
/-- both sides write the same -/
def wE (J : zJ) (J' : zJ) : Prop := J 4 0 = J' 353 21 ∧ J 4 1 = J' 353 22 ∧ J 4 2 = J' 353 23
theorem wE_L : ∀ (l : List Int32) (f g : Int → Int), (f 0 = g 21 ∧ f 1 = g 22 ∧ f 2 = g 23) → (wL 0 1 2 f l 0 = wL 21 22 23 g l 21 ∧ wL 0 1 2 f l 1 = wL 21 22 23 g l 22 ∧ wL 0 1 2 f l 2 = wL 21 22 23 g l 23) := by
  intro l
  induction l with
  | nil => intro f g h; exact h
  | cons x l ih =>
    rintro f g ⟨h1, h2, h3⟩
    refine ih (wq 0 1 2 f x) (wq 21 22 23 g x) ?_
    unfold wq
    rw [h1, h2]
    by_cases q : jI (g 21) = jI (g 22)
    · rw [if_pos q, if_pos q]
      refine ⟨by rw [sset_eq rfl, sset_eq rfl], by rw [sset_ne (by decide), sset_ne (by decide), sset_ne (by decide), sset_ne (by decide)]; exact h2, by rw [sset_ne (by decide), sset_eq rfl, sset_ne (by decide), sset_eq rfl]⟩
    · rw [if_neg q, if_neg q]
      exact ⟨by rw [sset_eq rfl, sset_eq rfl], by rw [sset_ne (by decide), sset_ne (by decide)]; exact h2, by rw [sset_ne (by decide), sset_ne (by decide)]; exact h3⟩
theorem wE_T : ∀ (l : List (List Int32)) (J J' : zJ), wE J J' → wE (cT 4 0 1 2 J l) (cT 353 21 22 23 J' l) := by
  intro l
  induction l with
  | nil => intro J J' h; exact h
  | cons x l ih =>
    intro J J' h
    refine ih _ _ ?_
    unfold wE cS cw
    rw [jrow_same, jrow_same, h.1]
    exact wE_L _ _ _ h
/-- the byte that is wanted, when all is written -/
def wP (a b c : Int) (f : Int → Int) (n : Int) : Prop := 0 ≤ f a ∧ f a ≤ n ∧ -1 ≤ f c ∧ f c ≤ 127 ∧ (f c ≠ -1 ↔ 0 ≤ f b ∧ f b < f a)
def gdB (x : Int32) : Prop := 0 ≤ x.toInt ∧ x.toInt ≤ 127
theorem wP_L {a b c : Int} (h1 : a ≠ b) (h2 : a ≠ c) (h3 : b ≠ c) : ∀ (l : List Int32) (f : Int → Int) (n : Int), wP a b c f n → n + l.length ≤ 1000000 → -2147483648 ≤ f b → f b < 2147483648 → (∀ x, x ∈ l → gdB x) → wP a b c (wL a b c f l) (n + l.length) := by
  intro l
  induction l with
  | nil =>
    intro f n h _ _ _ _
    rw [show n + (([] : List Int32).length : Int) = n by simp]
    exact h
  | cons x l ih =>
    rintro f n ⟨p1, p2, p3, p4, p5⟩ hn hb0 hb1 hg
    have hx := hg x (List.mem_cons_self ..)
    rw [List.length_cons] at hn ⊢
    have hfb : wq a b c f x b = f b := by
      unfold wq
      rw [sset_ne (fun h => h1 h.symm)]
      split
      · exact sset_ne h3
      · rfl
    have key : wP a b c (wq a b c f x) (n + 1) := by
      unfold wP
      rw [hfb]
      unfold wq
      have hw := jI_eq (a := f a) (b := f b) (by omega) (by omega) hb0 hb1
      rw [sset_eq rfl, sset_ne (fun h => h2 h.symm)]
      by_cases q : f a = f b
      · rw [if_pos (hw.mpr q), sset_eq rfl]
        unfold gdB at hx
        omega
      · rw [if_neg (fun h => q (hw.mp h))]
        omega
    have := ih (wq a b c f x) (n + 1) key (by omega) (by rw [hfb]; exact hb0) (by rw [hfb]; exact hb1) (fun y hy => hg y (List.mem_cons_of_mem _ hy))
    rw [show n + ((l.length + 1 : Nat) : Int) = n + 1 + l.length by omega]
    exact this
theorem wP_up {a b c : Int} {f : Int → Int} {n m : Int} (h : wP a b c f n) (hm : n ≤ m) : wP a b c f m := ⟨h.1, Int.le_trans h.2.1 hm, h.2.2⟩
def gdS (l : List Int32) : Prop := l.length ≤ 100 ∧ ∀ x, x ∈ l → gdB x
theorem gd_59 : gdB (jI 59) := ⟨by decide, by decide⟩
theorem wP_T {p : Nat} {a b c : Int} (h1 : a ≠ b) (h2 : a ≠ c) (h3 : b ≠ c) : ∀ (l : List (List Int32)) (J : zJ) (n : Int), wP a b c (J p) n → n + 101 * l.length ≤ 1000000 → -2147483648 ≤ J p b → J p b < 2147483648 → (∀ x, x ∈ l → gdS x) → wP a b c (cT p a b c J l p) (n + 101 * l.length) := by
  intro l
  induction l with
  | nil =>
    intro J n h _ _ _ _
    rw [show n + 101 * (([] : List (List Int32)).length : Int) = n by simp]
    exact h
  | cons x l ih =>
    intro J n h hn hb0 hb1 hg
    have hx := hg x (List.mem_cons_self ..)
    rw [List.length_cons] at hn ⊢
    have hlen : (sp9 (J p a) ++ x).length ≤ 101 := by
      rw [List.length_append]
      unfold sp9
      have := hx.1
      split
      · simp; omega
      · simp; omega
    have hgd : ∀ y, y ∈ sp9 (J p a) ++ x → gdB y := by
      intro y hy
      rcases List.mem_append.mp hy with hy | hy
      · unfold sp9 at hy
        split at hy
        · cases hy
        · rw [List.mem_singleton.mp hy]; exact gd_59
      · exact hx.2 y hy
    have k1 := wP_L h1 h2 h3 (sp9 (J p a) ++ x) (J p) n h (by omega) hb0 hb1 hgd
    have k2 : wP a b c (cS p a b c J x p) (n + 101) := by
      unfold cS cw
      rw [jrow_same]
      exact wP_up k1 (by omega)
    have hfb : cS p a b c J x p b = J p b := cS_fr (fun h => h1 h.symm) h3
    have := ih (cS p a b c J x) (n + 101) k2 (by omega) (by rw [hfb]; exact hb0) (by rw [hfb]; exact hb1) (fun y hy => hg y (List.mem_cons_of_mem _ hy))
    rw [show n + 101 * ((l.length + 1 : Nat) : Int) = n + 101 + 101 * l.length by omega]
    exact this
/-! names, numbers, words -/
def ltL (v s : Int) : List Int32 := if ((jI v >>> (jI s &&& 31)) &&& jI 31) = 0 then [] else [jI 96 + ((jI v >>> (jI s &&& 31)) &&& jI 31)]
def nmL (v : Int) : List Int32 := [jI 32] ++ ltL v 25 ++ ltL v 20 ++ ltL v 15 ++ ltL v 10 ++ ltL v 5 ++ ltL v 0
def dgL (m : Int) : List Int32 := (if m < 100 then [] else [jI (48 + m / 100 % 10)]) ++ (if m < 10 then [] else [jI (48 + m / 10 % 10)]) ++ [jI (48 + m % 10)]
def nuL (x : Int) : List Int32 := [jI 32] ++ (if 0 ≤ x then [] else [jI 45]) ++ dgL x.natAbs
def wdL (i : Nat) : List Int32 := zStrB.getD i []
theorem b_31 (i : Nat) : bt (jI 31) i = decide (i < 5) := by
  rcases Nat.lt_or_ge i 32 with h | h
  · exact (by decide +kernel : ∀ i, i < 32 → bt (jI 31) i = decide (i < 5)) i h
  · rw [b_big h, decide_eq_false (by omega)]
theorem ltr_eq {x : Int32} {s : Int} (s0 : 0 ≤ s) (s1 : s ≤ 27) : jushr x (jI s) &&& jI 31 = (x >>> (jI s &&& 31)) &&& jI 31 := by
  refine b_ext (fun i hi => ?_)
  rw [b_and, b_and, b_31, jI_n s0, b_sshr s.toNat (by omega) x hi]
  unfold jushr
  rw [b_ushr s.toNat (by omega)]
  by_cases h : i < 5
  · rw [if_pos (by omega)]
  · rw [decide_eq_false h, Bool.and_false, Bool.and_false]
theorem gd_ltr (y : Int32) : gdB (jI 96 + (y &&& jI 31)) := by
  have h : (y &&& jI 31).toBitVec.toNat ≤ 31 := by
    rw [Int32.toBitVec_and, BitVec.toNat_and]
    exact Nat.and_le_right
  have e : (y &&& jI 31).toInt = ((y &&& jI 31).toBitVec.toNat : Int) := by
    show (y &&& jI 31).toBitVec.toInt = _
    rw [BitVec.toInt_eq_toNat_of_lt (by omega)]
  have e2 : y &&& jI 31 = jI ((y &&& jI 31).toBitVec.toNat : Int) := by rw [← e, jI_of]
  unfold gdB
  rw [e2, jI_add, jI_toInt (by omega) (by omega)]
  omega
theorem gd_j {v : Int} (h0 : 0 ≤ v) (h1 : v ≤ 127) : gdB (jI v) := by
  unfold gdB
  rw [jI_toInt (by omega) (by omega)]
  exact ⟨h0, h1⟩
theorem gdS_app {l m : List Int32} (h1 : ∀ x, x ∈ l → gdB x) (h2 : ∀ x, x ∈ m → gdB x) : ∀ x, x ∈ l ++ m → gdB x := by
  intro x hx
  rcases List.mem_append.mp hx with h | h
  · exact h1 x h
  · exact h2 x h
theorem gd_1 {v : Int} (h0 : 0 ≤ v) (h1 : v ≤ 127) : ∀ x, x ∈ [jI v] → gdB x := by
  intro x hx
  rw [List.mem_singleton.mp hx]
  exact gd_j h0 h1
theorem gd_0 : ∀ x : Int32, x ∈ ([] : List Int32) → gdB x := fun x hx => by cases hx
theorem gd_lt (v s : Int) : ∀ x, x ∈ ltL v s → gdB x := by
  intro x hx
  unfold ltL at hx
  split at hx
  · cases hx
  · rw [List.mem_singleton.mp hx]
    exact gd_ltr _
theorem ltL_len (v s : Int) : (ltL v s).length ≤ 1 := by
  unfold ltL
  split
  · exact Nat.zero_le 1
  · exact Nat.le_refl 1
theorem gd_nm (v : Int) : (nmL v).length ≤ 7 ∧ ∀ x, x ∈ nmL v → gdB x := by
  unfold nmL
  constructor
  · have h1 := ltL_len v 25
    have h2 := ltL_len v 20
    have h3 := ltL_len v 15
    have h4 := ltL_len v 10
    have h5 := ltL_len v 5
    have h6 := ltL_len v 0
    simp only [List.length_append, List.length_singleton]
    omega
  · exact gdS_app (gdS_app (gdS_app (gdS_app (gdS_app (gdS_app (gd_1 (by decide) (by decide)) (gd_lt _ _)) (gd_lt _ _)) (gd_lt _ _)) (gd_lt _ _)) (gd_lt _ _)) (gd_lt _ _)
theorem gd_nu (v : Int) : (nuL v).length ≤ 5 ∧ ∀ x, x ∈ nuL v → gdB x := by
  unfold nuL dgL
  constructor
  · simp only [List.length_append, List.length_singleton]
    split <;> split <;> split <;> simp
  · refine gdS_app (gdS_app (gd_1 (by decide) (by decide)) ?_) (gdS_app (gdS_app ?_ ?_) (gd_1 (by omega) (by omega)))
    · split
      · exact gd_0
      · exact gd_1 (by decide) (by decide)
    · split
      · exact gd_0
      · exact gd_1 (by omega) (by omega)
    · split
      · exact gd_0
      · exact gd_1 (by omega) (by omega)
theorem gd_wd : ∀ i : Nat, i < 7 → (wdL i).length ≤ 8 ∧ ∀ x, x ∈ wdL i → gdB x := by
  have h : ∀ i, i < 7 → (wdL i).length ≤ 8 ∧ ∀ x, x ∈ wdL i → (0 ≤ x.toInt ∧ x.toInt ≤ 127) := by decide +kernel
  exact h
section
variable {W : zW} {J : zJ} {Q : zO → zI → Prop} {k : Int}
/-! one byte -/
theorem sp_97 (x : Int32) : wz W 97 0 [.ref 4, .int x] [] (jm J) Q = Q oV (jm (cw 4 0 1 2 J [x])) := by
  have hx : x = jI x.toInt := (jI_of x).symm
  rw [sg_97_0]
  unfold cw wL wq
  show (if jI (J 4 0) = jI (J 4 1) then _ else _) = Q oV (jm (jrow J 4 (sset (if jI (J 4 0) = jI (J 4 1) then sset (J 4) 2 x.toInt else J 4) 0 (J 4 0 + 1))))
  by_cases q : jI (J 4 0) = jI (J 4 1)
  · rw [if_pos q, if_pos q, sg_97_16]
    have e1 : zset (jm J) 4 2 x = jm (jrow J 4 (sset (J 4) 2 x.toInt)) := by
      have := jz_n (J := J) (a := 4) (n := 2) (v := x.toInt)
      rw [jI_of] at this
      exact this
    rw [e1]
    have e2 : jm (jrow J 4 (sset (J 4) 2 x.toInt)) 4 0 + jI 1 = jI (J 4 0 + 1) := by
      rw [jm_0, jrow_same, sset_ne (by decide), jI_add]
    rw [e2]
    have e3 := jz_n (J := jrow J 4 (sset (J 4) 2 x.toInt)) (a := 4) (n := 0) (v := J 4 0 + 1)
    rw [jrow_same, jrow_jrow] at e3
    refine Eq.trans ?_ (congrArg (Q oV) e3)
    rfl
  · rw [if_neg q, if_neg q, sg_97_16]
    have e2 : jm J 4 0 + jI 1 = jI (J 4 0 + 1) := by rw [jm_0, jI_add]
    rw [e2]
    exact congrArg (Q oV) (jz_n (J := J) (a := 4) (n := 0) (v := J 4 0 + 1))
theorem sp_314 (x : Int32) : wz W 314 0 [.ref 353, .int x] [] (jm J) Q = Q oV (jm (cw 353 21 22 23 J [x])) := by
  rw [sg_314_0]
  unfold cw wL wq
  show (if jI (J 353 21) = jI (J 353 22) then _ else _) = Q oV (jm (jrow J 353 (sset (if jI (J 353 21) = jI (J 353 22) then sset (J 353) 23 x.toInt else J 353) 21 (J 353 21 + 1))))
  have hput : ∀ v : Int, wz W 314 20 [.ref 353, .int x] [.int (jI v), .ref 353] (jm J) Q = Q oV (jm (jrow J 353 (sset (sset (J 353) 23 v) 21 (J 353 21 + 1)))) := by
    intro v
    rw [sg_314_20]
    have e1 : zset (jm J) 353 23 (jI v) = jm (jrow J 353 (sset (J 353) 23 v)) := jz_n (J := J) (a := 353) (n := 23) (v := v)
    rw [e1]
    have e2 : jm (jrow J 353 (sset (J 353) 23 v)) 353 21 + jI 1 = jI (J 353 21 + 1) := by
      show jI (jrow J 353 (sset (J 353) 23 v) 353 21) + jI 1 = _
      rw [jrow_same, sset_ne (by decide), jI_add]
    rw [e2]
    have e3 := jz_n (J := jrow J 353 (sset (J 353) 23 v)) (a := 353) (n := 21) (v := J 353 21 + 1)
    rw [jrow_same, jrow_jrow] at e3
    exact congrArg (Q oV) e3
  by_cases q : jI (J 353 21) = jI (J 353 22)
  · rw [if_pos q, if_pos q]
    have := hput x.toInt
    rw [jI_of] at this
    exact this
  · rw [if_neg q, if_neg q]
    refine (hput (J 353 23)).trans ?_
    have e : sset (J 353) 23 (J 353 23) = J 353 := by
      funext j
      unfold sset
      split
      · rename_i h; rw [h]
      · rfl
    rw [e]
/-! words -/
theorem sp_332 {i : Nat} (hi : i < 7) : wz W 332 0 [.ref (2000000 + i)] [] (jm J) Q = Q (oI (wdL i).length) (jm J) := by
  rw [sg_332_0 (hi := hi), sg_334_0 (hi := hi), sg_334_14 (hi := hi)]
  simp only [show zrok (some .byte) 0 = true from rfl, zk_l, zk_r, Option.toList_some, Option.toList_none, List.cons_append, List.nil_append, zrokB, zrokB0, zrokB1, zrokJ0, zrokJ1, and_true, true_and, and_self, if_true, if_false, b2_0, b2_1, b2_not, ite_self]
  rw [sg_332_9 (hi := hi)]
  have e : Int32.ofNat (zStrB.getD i []).length >>> ((0 : Int32) &&& 31) = jI ((wdL i).length) := (by decide +kernel : ∀ i, i < 7 → Int32.ofNat (zStrB.getD i []).length >>> ((0 : Int32) &&& 31) = jI ((wdL i).length)) i hi
  rw [e]
theorem sp_333 {i j : Nat} (hi : i < 7) (hj : j < (wdL i).length) : wz W 333 0 [.ref (2000000 + i), .int (jI j)] [] (jm J) Q = Q (.inl (some (.int ((wdL i).getD j 0)))) (jm J) := by
  have hlen : (wdL i).length ≤ 8 := (gd_wd i hi).1
  have e1 : Int32.ofNat (zStrB.getD i []).length = jI ((wdL i).length) := (by decide +kernel : ∀ i, i < 7 → Int32.ofNat (zStrB.getD i []).length = jI ((wdL i).length)) i hi
  have e2 : ∀ i, i < 7 → ∀ j, j < (wdL i).length → zvin (jI j) (zStrB.getD i []).length = true ∧ zrok (some .char) (ji2c (((zStrB.getD i []).getD (jI j).toNatClampNeg 0) &&& (jI 255))) = true ∧ ji2c (((zStrB.getD i []).getD (jI j).toNatClampNeg 0) &&& (jI 255)) = (wdL i).getD j 0 := by decide +kernel
  obtain ⟨f1, f2, f3⟩ := e2 i hi j hj
  rw [sg_333_0 (hi := hi), sg_335_0 (hi := hi), sg_335_18 (hi := hi)]
  simp only [show zrok (some .boolean) (jI 1) = true from rfl, zk_l, zk_r, Option.toList_some, Option.toList_none, List.cons_append, List.nil_append, zrokB, zrokB0, zrokB1, zrokJ0, zrokJ1, and_true, true_and, and_self, if_true, if_false, b2_0, b2_1, b2_not, ite_self]
  rw [sg_333_4 (hi := hi), if_neg (by decide), sg_337_0 (hp0 := hi), e1, sg_336_0, sg_339_0, if_neg (by rw [jI_lt0 (by omega) (by omega)]; omega), if_pos (by rw [jI_lt (by omega) (by omega) (by omega) (by omega)]; omega)]
  simp only [zk_l, zk_r, Option.toList_some, Option.toList_none, List.cons_append, List.nil_append, zrokB, zrokB0, zrokB1, zrokJ0, zrokJ1, and_true, true_and, and_self, if_true, if_false, b2_0, b2_1, b2_not, ite_self]
  rw [sg_336_8]
  simp only [zk_l, zk_r, Option.toList_some, Option.toList_none, List.cons_append, List.nil_append, zrokB, zrokB0, zrokB1, zrokJ0, zrokJ1, and_true, true_and, and_self, if_true, if_false, b2_0, b2_1, b2_not, ite_self]
  rw [sg_337_6 (hp0 := hi), f3]
  rw [f3] at f2
  simp only [f1, f2, zk_l, zk_r, Option.toList_some, Option.toList_none, List.cons_append, List.nil_append, zrokB, zrokB0, zrokB1, zrokJ0, zrokJ1, and_true, true_and, and_self, if_true, if_false, b2_0, b2_1, b2_not, ite_self]
  rw [sg_333_15 (hi := hi)]
  simp only [f2, zk_l, zk_r, Option.toList_some, Option.toList_none, List.cons_append, List.nil_append, zrokB, zrokB0, zrokB1, zrokJ0, zrokJ1, and_true, true_and, and_self, if_true, if_false, b2_0, b2_1, b2_not, ite_self]
theorem lget {l : List Int32} {j : Nat} (h : j < l.length) : l.take j ++ [l.getD j 0] = l.take (j + 1) := by
  rw [List.getD_eq_getElem?_getD, List.getElem?_eq_getElem h, Option.getD_some]
  exact (List.take_succ_eq_append_getElem h).symm

theorem sp_94 {i : Nat} (hi : i < 7) : wz W 94 0 [.ref 4, .ref (2000000 + i), .float 0] [] (jm J) Q = Q oV (jm (cS 4 0 1 2 J (wdL i))) := by
  have hlen : (wdL i).length ≤ 8 := (gd_wd i hi).1
  have main : ∀ J1 : zJ, wz W 94 13 [.ref 4, .ref (2000000 + i), .float 0] [] (jm J1) Q = Q oV (jm (cw 4 0 1 2 J1 (wdL i))) := by
    intro J1
    have key := zloop (f := fun j => wz W 94 15 [.ref 4, .ref (2000000 + i), .int (jI j)] [] (jm (cw 4 0 1 2 J1 ((wdL i).take j))) Q) (wdL i).length (fun j hj => by
      try simp only
      rw [sg_94_15 (hp1 := hi), sp_332 hi]
      simp only [zk_l, zk_r, Option.toList_some, Option.toList_none, List.cons_append, List.nil_append, zrokB, zrokB0, zrokB1, zrokJ0, zrokJ1, and_true, true_and, and_self, if_true, if_false, b2_0, b2_1, b2_not, ite_self]
      rw [sg_94_20 (hp1 := hi), if_neg (by rw [jI_le (by omega) (by omega) (by omega) (by omega)]; omega), sp_333 hi hj]
      simp only [zk_l, zk_r, Option.toList_some, Option.toList_none, List.cons_append, List.nil_append, zrokB, zrokB0, zrokB1, zrokJ0, zrokJ1, and_true, true_and, and_self, if_true, if_false, b2_0, b2_1, b2_not, ite_self]
      rw [sg_94_29 (hp1 := hi), sp_97]
      simp only [zk_l, zk_r, Option.toList_some, Option.toList_none, List.cons_append, List.nil_append, zrokB, zrokB0, zrokB1, zrokJ0, zrokJ1, and_true, true_and, and_self, if_true, if_false, b2_0, b2_1, b2_not, ite_self]
      rw [sg_94_32 (hp1 := hi), cw_cw, lget hj, jI_add]
      rfl)
    rw [sg_94_13 (hp1 := hi)]
    have e0 : cw 4 0 1 2 J1 ((wdL i).take 0) = J1 := cw_nil
    simp only [e0] at key
    refine Eq.trans key ?_
    rw [sg_94_15 (hp1 := hi), sp_332 hi]
    simp only [zk_l, zk_r, Option.toList_some, Option.toList_none, List.cons_append, List.nil_append, zrokB, zrokB0, zrokB1, zrokJ0, zrokJ1, and_true, true_and, and_self, if_true, if_false, b2_0, b2_1, b2_not, ite_self]
    rw [sg_94_20 (hp1 := hi), if_pos (Int32.le_refl _), List.take_length]
  rw [sg_94_0 (hp1 := hi)]
  unfold cS sp9
  show (if jI (J 4 0) ≤ 0 then _ else _) = _
  by_cases q : jI (J 4 0) ≤ 0
  · rw [if_pos q, if_pos q, main]
    rfl
  · rw [if_neg q, if_neg q, sp_97]
    simp only [zk_l, zk_r, Option.toList_some, Option.toList_none, List.cons_append, List.nil_append, zrokB, zrokB0, zrokB1, zrokJ0, zrokJ1, and_true, true_and, and_self, if_true, if_false, b2_0, b2_1, b2_not, ite_self]
    rw [main, cw_cw]
    rfl

theorem sp_317 {i : Nat} (hi : i < 7) : wz W 317 0 [.ref 353, .ref (2000000 + i), .float 0] [] (jm J) Q = Q oV (jm (cS 353 21 22 23 J (wdL i))) := by
  have hlen : (wdL i).length ≤ 8 := (gd_wd i hi).1
  have main : ∀ J1 : zJ, wz W 317 13 [.ref 353, .ref (2000000 + i), .float 0] [] (jm J1) Q = Q oV (jm (cw 353 21 22 23 J1 (wdL i))) := by
    intro J1
    have key := zloop (f := fun j => wz W 317 15 [.ref 353, .ref (2000000 + i), .int (jI j)] [] (jm (cw 353 21 22 23 J1 ((wdL i).take j))) Q) (wdL i).length (fun j hj => by
      try simp only
      rw [sg_317_15 (hp1 := hi), sp_332 hi]
      simp only [zk_l, zk_r, Option.toList_some, Option.toList_none, List.cons_append, List.nil_append, zrokB, zrokB0, zrokB1, zrokJ0, zrokJ1, and_true, true_and, and_self, if_true, if_false, b2_0, b2_1, b2_not, ite_self]
      rw [sg_317_20 (hp1 := hi), if_neg (by rw [jI_le (by omega) (by omega) (by omega) (by omega)]; omega), sp_333 hi hj]
      simp only [zk_l, zk_r, Option.toList_some, Option.toList_none, List.cons_append, List.nil_append, zrokB, zrokB0, zrokB1, zrokJ0, zrokJ1, and_true, true_and, and_self, if_true, if_false, b2_0, b2_1, b2_not, ite_self]
      rw [sg_317_29 (hp1 := hi), sp_314]
      simp only [zk_l, zk_r, Option.toList_some, Option.toList_none, List.cons_append, List.nil_append, zrokB, zrokB0, zrokB1, zrokJ0, zrokJ1, and_true, true_and, and_self, if_true, if_false, b2_0, b2_1, b2_not, ite_self]
      rw [sg_317_32 (hp1 := hi), cw_cw, lget hj, jI_add]
      rfl)
    rw [sg_317_13 (hp1 := hi)]
    have e0 : cw 353 21 22 23 J1 ((wdL i).take 0) = J1 := cw_nil
    simp only [e0] at key
    refine Eq.trans key ?_
    rw [sg_317_15 (hp1 := hi), sp_332 hi]
    simp only [zk_l, zk_r, Option.toList_some, Option.toList_none, List.cons_append, List.nil_append, zrokB, zrokB0, zrokB1, zrokJ0, zrokJ1, and_true, true_and, and_self, if_true, if_false, b2_0, b2_1, b2_not, ite_self]
    rw [sg_317_20 (hp1 := hi), if_pos (Int32.le_refl _), List.take_length]
  rw [sg_317_0 (hp1 := hi)]
  unfold cS sp9
  show (if jI (J 353 21) ≤ 0 then _ else _) = _
  by_cases q : jI (J 353 21) ≤ 0
  · rw [if_pos q, if_pos q, main]
    rfl
  · rw [if_neg q, if_neg q, sp_314]
    simp only [zk_l, zk_r, Option.toList_some, Option.toList_none, List.cons_append, List.nil_append, zrokB, zrokB0, zrokB1, zrokJ0, zrokJ1, and_true, true_and, and_self, if_true, if_false, b2_0, b2_1, b2_not, ite_self]
    rw [main, cw_cw]
    rfl

theorem sp_95s {v s : Int} {x3 : Value} (s0 : 0 ≤ s) (s1 : s ≤ 27) : ∃ x, wz W 95 9 [.ref 4, .int (jI v), .int (jI s), x3] [] (jm J) Q = wz W 95 9 [.ref 4, .int (jI v), .int (jI (s + -5)), .int x] [] (jm (cw 4 0 1 2 J (ltL v s))) Q := by
  refine ⟨(jI v >>> (jI s &&& 31)) &&& jI 31, ?_⟩
  rw [sg_95_9, if_neg (by rw [jI_lt0 (by omega) (by omega)]; omega), ltr_eq s0 s1]
  unfold ltL
  by_cases q : ((jI v >>> (jI s &&& 31)) &&& jI 31) = 0
  · rw [if_pos q, if_pos q, sg_95_32, cw_nil, jI_add]
  · rw [if_neg q, if_neg q, sp_97]
    simp only [zk_l, zk_r, Option.toList_some, Option.toList_none, List.cons_append, List.nil_append, zrokB, zrokB0, zrokB1, zrokJ0, zrokJ1, and_true, true_and, and_self, if_true, if_false, b2_0, b2_1, b2_not, ite_self]
    rw [sg_95_32, jI_add]
theorem sp_95 {v : Int} : wz W 95 0 [.ref 4, .int (jI v), .float 0, .float 0] [] (jm J) Q = Q oV (jm (cw 4 0 1 2 J (nmL v))) := by
  rw [sg_95_0, sp_97]
  simp only [zk_l, zk_r, Option.toList_some, Option.toList_none, List.cons_append, List.nil_append, zrokB, zrokB0, zrokB1, zrokJ0, zrokJ1, and_true, true_and, and_self, if_true, if_false, b2_0, b2_1, b2_not, ite_self]
  rw [sg_95_6]
  obtain ⟨x1, h1⟩ := sp_95s (W := W) (J := cw 4 0 1 2 J [jI 32]) (Q := Q) (v := v) (s := 25) (x3 := .float 0) (by decide) (by decide)
  rw [h1]
  obtain ⟨x2, h2⟩ := sp_95s (W := W) (J := cw 4 0 1 2 (cw 4 0 1 2 J [jI 32]) (ltL v 25)) (Q := Q) (v := v) (s := 20) (x3 := .int x1) (by decide) (by decide)
  refine h2.trans ?_
  obtain ⟨x3, h3⟩ := sp_95s (W := W) (J := cw 4 0 1 2 (cw 4 0 1 2 (cw 4 0 1 2 J [jI 32]) (ltL v 25)) (ltL v 20)) (Q := Q) (v := v) (s := 15) (x3 := .int x2) (by decide) (by decide)
  refine h3.trans ?_
  obtain ⟨x4, h4⟩ := sp_95s (W := W) (J := cw 4 0 1 2 (cw 4 0 1 2 (cw 4 0 1 2 (cw 4 0 1 2 J [jI 32]) (ltL v 25)) (ltL v 20)) (ltL v 15)) (Q := Q) (v := v) (s := 10) (x3 := .int x3) (by decide) (by decide)
  refine h4.trans ?_
  obtain ⟨x5, h5⟩ := sp_95s (W := W) (J := cw 4 0 1 2 (cw 4 0 1 2 (cw 4 0 1 2 (cw 4 0 1 2 (cw 4 0 1 2 J [jI 32]) (ltL v 25)) (ltL v 20)) (ltL v 15)) (ltL v 10)) (Q := Q) (v := v) (s := 5) (x3 := .int x4) (by decide) (by decide)
  refine h5.trans ?_
  obtain ⟨x6, h6⟩ := sp_95s (W := W) (J := cw 4 0 1 2 (cw 4 0 1 2 (cw 4 0 1 2 (cw 4 0 1 2 (cw 4 0 1 2 (cw 4 0 1 2 J [jI 32]) (ltL v 25)) (ltL v 20)) (ltL v 15)) (ltL v 10)) (ltL v 5)) (Q := Q) (v := v) (s := 0) (x3 := .int x5) (by decide) (by decide)
  refine h6.trans ?_
  rw [sg_95_9, if_pos (by decide)]
  simp only [cw_cw]
  rfl
theorem sp_318s {v s : Int} (s0 : 0 ≤ s) (s1 : s ≤ 27) : wz W 318 9 [.ref 353, .int (jI v), .int (jI s)] [] (jm J) Q = wz W 318 9 [.ref 353, .int (jI v), .int (jI (s + -5))] [] (jm (cw 353 21 22 23 J (ltL v s))) Q := by
  rw [sg_318_9, if_neg (by rw [jI_lt0 (by omega) (by omega)]; omega)]
  unfold ltL
  by_cases q : ((jI v >>> (jI s &&& 31)) &&& jI 31) = 0
  · rw [if_pos q, if_pos q, sg_318_35, cw_nil, jI_add]
  · rw [if_neg q, if_neg q, sp_314]
    simp only [zk_l, zk_r, Option.toList_some, Option.toList_none, List.cons_append, List.nil_append, zrokB, zrokB0, zrokB1, zrokJ0, zrokJ1, and_true, true_and, and_self, if_true, if_false, b2_0, b2_1, b2_not, ite_self]
    rw [sg_318_35, jI_add]
theorem sp_318 {v : Int} : wz W 318 0 [.ref 353, .int (jI v), .float 0] [] (jm J) Q = Q oV (jm (cw 353 21 22 23 J (nmL v))) := by
  rw [sg_318_0, sp_314]
  simp only [zk_l, zk_r, Option.toList_some, Option.toList_none, List.cons_append, List.nil_append, zrokB, zrokB0, zrokB1, zrokJ0, zrokJ1, and_true, true_and, and_self, if_true, if_false, b2_0, b2_1, b2_not, ite_self]
  rw [sg_318_6, sp_318s (s := 25) (by decide) (by decide)]
  refine (sp_318s (s := 20) (by decide) (by decide)).trans ?_
  refine (sp_318s (s := 15) (by decide) (by decide)).trans ?_
  refine (sp_318s (s := 10) (by decide) (by decide)).trans ?_
  refine (sp_318s (s := 5) (by decide) (by decide)).trans ?_
  refine (sp_318s (s := 0) (by decide) (by decide)).trans ?_
  rw [sg_318_9, if_pos (by decide)]
  simp only [cw_cw]
  rfl
/-! numbers -/
theorem sp_96 {x : Int} (x0 : -999 ≤ x) (x1 : x ≤ 999) : wz W 96 0 [.ref 4, .int (jI x), .float 0] [] (jm J) Q = Q oV (jm (cw 4 0 1 2 J (nuL x))) := by
  have main : ∀ J1 : zJ, wz W 96 16 [.ref 4, .int (jI x), .float 0] [] (jm J1) Q = Q oV (jm (cw 4 0 1 2 J1 (dgL x.natAbs))) := by
    intro J1
    have ha : (0 : Int) ≤ x.natAbs ∧ (x.natAbs : Int) ≤ 999 := by omega
    rw [sg_96_16, jabs_j (by omega) (by omega)]
    generalize (x.natAbs : Int) = m at *
    have last : ∀ J2 : zJ, wz W 96 61 [.ref 4, .int (jI x), .int (jI m)] [] (jm J2) Q = Q oV (jm (cw 4 0 1 2 J2 [jI (48 + m % 10)])) := by
      intro J2
      rw [sg_96_61]
      simp (disch := first | assumption | omega) only [Int.add_zero, jI_nat, jI_add, jI_sub, jI_mul, jI_neg, jI_lt, jI_le, jI_eq, jI_lt0, jI_0lt, jI_le0, jI_0le, jI_eq0, jI_in, jI_dv, i_mod]
      rw [sp_97]
      simp only [zk_l, zk_r, Option.toList_some, Option.toList_none, List.cons_append, List.nil_append, zrokB, zrokB0, zrokB1, zrokJ0, zrokJ1, and_true, true_and, and_self, if_true, if_false, b2_0, b2_1, b2_not, ite_self]
      rw [sg_96_72]
    have mid : ∀ J2 : zJ, wz W 96 41 [.ref 4, .int (jI x), .int (jI m)] [] (jm J2) Q = Q oV (jm (cw 4 0 1 2 J2 ((if m < 10 then [] else [jI (48 + m / 10 % 10)]) ++ [jI (48 + m % 10)]))) := by
      intro J2
      rw [sg_96_41]
      simp (disch := first | assumption | omega) only [Int.add_zero, jI_nat, jI_add, jI_sub, jI_mul, jI_neg, jI_lt, jI_le, jI_eq, jI_lt0, jI_0lt, jI_le0, jI_0le, jI_eq0, jI_in, jI_dv, i_mod]
      by_cases q : m < 10
      · rw [if_pos q, if_pos q, last]; rfl
      · rw [if_neg q, if_neg q, sp_97]
        simp only [zk_l, zk_r, Option.toList_some, Option.toList_none, List.cons_append, List.nil_append, zrokB, zrokB0, zrokB1, zrokJ0, zrokJ1, and_true, true_and, and_self, if_true, if_false, b2_0, b2_1, b2_not, ite_self]
        rw [last, cw_cw]
        rfl
    unfold dgL
    simp (disch := first | assumption | omega) only [Int.add_zero, jI_nat, jI_add, jI_sub, jI_mul, jI_neg, jI_lt, jI_le, jI_eq, jI_lt0, jI_0lt, jI_le0, jI_0le, jI_eq0, jI_in, jI_dv, i_mod]
    by_cases q : m < 100
    · rw [if_pos q, if_pos q, mid]; rfl
    · rw [if_neg q, if_neg q, sp_97]
      simp only [zk_l, zk_r, Option.toList_some, Option.toList_none, List.cons_append, List.nil_append, zrokB, zrokB0, zrokB1, zrokJ0, zrokJ1, and_true, true_and, and_self, if_true, if_false, b2_0, b2_1, b2_not, ite_self]
      rw [mid, cw_cw]
      rfl
  unfold nuL
  rw [sg_96_0, sp_97]
  simp only [zk_l, zk_r, Option.toList_some, Option.toList_none, List.cons_append, List.nil_append, zrokB, zrokB0, zrokB1, zrokJ0, zrokJ1, and_true, true_and, and_self, if_true, if_false, b2_0, b2_1, b2_not, ite_self]
  rw [sg_96_6]
  by_cases q : 0 ≤ x
  · rw [if_pos (by rw [jI_0le (by omega) (by omega)]; exact q), if_pos q, main, cw_cw]
    rfl
  · rw [if_neg (by rw [jI_0le (by omega) (by omega)]; exact q), if_neg q, sp_97]
    simp only [zk_l, zk_r, Option.toList_some, Option.toList_none, List.cons_append, List.nil_append, zrokB, zrokB0, zrokB1, zrokJ0, zrokJ1, and_true, true_and, and_self, if_true, if_false, b2_0, b2_1, b2_not, ite_self]
    rw [main, cw_cw, cw_cw]
    rfl
theorem sp_315 {m : Int} (m0 : 0 ≤ m) (m1 : m ≤ 999) : wz W 315 0 [.ref 353, .int (jI m)] [] (jm J) Q = Q oV (jm (cw 353 21 22 23 J (dgL m))) := by
  have last : ∀ (n : Int) (J2 : zJ) (Q : zO → zI → Prop), 0 ≤ n → n ≤ 999 → wz W 315 14 [.ref 353, .int (jI n)] [] (jm J2) Q = Q oV (jm (cw 353 21 22 23 J2 [jI (48 + n % 10)])) := by
    intro n J2 Q n0 n1
    rw [sg_315_14]
    simp (disch := first | assumption | omega) only [Int.add_zero, jI_nat, jI_add, jI_sub, jI_mul, jI_neg, jI_lt, jI_le, jI_eq, jI_lt0, jI_0lt, jI_le0, jI_0le, jI_eq0, jI_in, jI_dv, i_mod]
    rw [sp_314]
    simp only [zk_l, zk_r, Option.toList_some, Option.toList_none, List.cons_append, List.nil_append, zrokB, zrokB0, zrokB1, zrokJ0, zrokJ1, and_true, true_and, and_self, if_true, if_false, b2_0, b2_1, b2_not, ite_self]
    rw [sg_315_25]
  have one : ∀ (n : Int) (J2 : zJ) (Q : zO → zI → Prop), 0 ≤ n → n ≤ 9 → wz W 315 0 [.ref 353, .int (jI n)] [] (jm J2) Q = Q oV (jm (cw 353 21 22 23 J2 [jI (48 + n % 10)])) := by
    intro n J2 Q n0 n1
    rw [sg_315_0, if_pos (by rw [jI_le (by omega) (by omega) (by omega) (by omega)]; exact n1), last n J2 Q n0 (by omega)]
  have two : ∀ (n : Int) (J2 : zJ) (Q : zO → zI → Prop), 0 ≤ n → n ≤ 99 → wz W 315 0 [.ref 353, .int (jI n)] [] (jm J2) Q = Q oV (jm (cw 353 21 22 23 J2 ((if n < 10 then [] else [jI (48 + n / 10 % 10)]) ++ [jI (48 + n % 10)]))) := by
    intro n J2 Q n0 n1
    by_cases q : n < 10
    · rw [if_pos q, one n J2 Q n0 (by omega)]; rfl
    · rw [if_neg q, sg_315_0, if_neg (by rw [jI_le (by omega) (by omega) (by omega) (by omega)]; omega)]
      simp (disch := first | assumption | omega) only [Int.add_zero, jI_nat, jI_add, jI_sub, jI_mul, jI_neg, jI_lt, jI_le, jI_eq, jI_lt0, jI_0lt, jI_le0, jI_0le, jI_eq0, jI_in, jI_dv, i_mod]
      rw [one (n / 10) J2 _ (by omega) (by omega)]
      simp only [zk_l, zk_r, Option.toList_some, Option.toList_none, List.cons_append, List.nil_append, zrokB, zrokB0, zrokB1, zrokJ0, zrokJ1, and_true, true_and, and_self, if_true, if_false, b2_0, b2_1, b2_not, ite_self]
      rw [last n _ Q n0 (by omega), cw_cw]
      rfl
  unfold dgL
  by_cases q : m < 100
  · rw [if_pos q, two m J Q m0 (by omega)]; rfl
  · rw [if_neg q, sg_315_0, if_neg (by rw [jI_le (by omega) (by omega) (by omega) (by omega)]; omega)]
    simp (disch := first | assumption | omega) only [Int.add_zero, jI_nat, jI_add, jI_sub, jI_mul, jI_neg, jI_lt, jI_le, jI_eq, jI_lt0, jI_0lt, jI_le0, jI_0le, jI_eq0, jI_in, jI_dv, i_mod]
    rw [two (m / 10) J _ (by omega) (by omega)]
    simp only [zk_l, zk_r, Option.toList_some, Option.toList_none, List.cons_append, List.nil_append, zrokB, zrokB0, zrokB1, zrokJ0, zrokJ1, and_true, true_and, and_self, if_true, if_false, b2_0, b2_1, b2_not, ite_self]
    rw [last m _ Q m0 m1, cw_cw, if_neg (by omega : ¬ m / 10 < 10), if_neg (by omega : ¬ m < 10), show m / 10 / 10 = m / 100 by omega]
    rfl
theorem sp_316 {x : Int} (x0 : -999 ≤ x) (x1 : x ≤ 999) : wz W 316 0 [.ref 353, .int (jI x)] [] (jm J) Q = Q oV (jm (cw 353 21 22 23 J (nuL x))) := by
  have main : ∀ J1 : zJ, wz W 316 16 [.ref 353, .int (jI x)] [] (jm J1) Q = Q oV (jm (cw 353 21 22 23 J1 (dgL x.natAbs))) := by
    intro J1
    rw [sg_316_16, jabs_j (by omega) (by omega), sp_315 (by omega) (by omega)]
    simp only [zk_l, zk_r, Option.toList_some, Option.toList_none, List.cons_append, List.nil_append, zrokB, zrokB0, zrokB1, zrokJ0, zrokJ1, and_true, true_and, and_self, if_true, if_false, b2_0, b2_1, b2_not, ite_self]
    rw [sg_316_24]
  unfold nuL
  rw [sg_316_0, sp_314]
  simp only [zk_l, zk_r, Option.toList_some, Option.toList_none, List.cons_append, List.nil_append, zrokB, zrokB0, zrokB1, zrokJ0, zrokJ1, and_true, true_and, and_self, if_true, if_false, b2_0, b2_1, b2_not, ite_self]
  rw [sg_316_6]
  by_cases q : 0 ≤ x
  · rw [if_pos (by rw [jI_0le (by omega) (by omega)]; exact q), if_pos q, main, cw_cw]
    rfl
  · rw [if_neg (by rw [jI_0le (by omega) (by omega)]; exact q), if_neg q, sp_314]
    simp only [zk_l, zk_r, Option.toList_some, Option.toList_none, List.cons_append, List.nil_append, zrokB, zrokB0, zrokB1, zrokJ0, zrokJ1, and_true, true_and, and_self, if_true, if_false, b2_0, b2_1, b2_not, ite_self]
    rw [main, cw_cw, cw_cw]
    rfl
end
