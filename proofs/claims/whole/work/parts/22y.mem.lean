/-! ===== THE MEMORY IN WHOLE NUMBERS: rows of Int ===== -/
abbrev zJ : Type := Nat → Int → Int
def jm (J : zJ) : zI := fun a b => jI (J a (b : Int))
def sset (s : Int → Int) (i v : Int) : Int → Int := fun j => if j = i then v else s j
def jrow (J : zJ) (a : Nat) (f : Int → Int) : zJ := fun x => if x = a then f else J x
theorem sset_eq {s : Int → Int} {i v j : Int} (h : j = i) : sset s i v j = v := if_pos h
theorem sset_ne {s : Int → Int} {i v j : Int} (h : j ≠ i) : sset s i v j = s j := if_neg h
theorem sset_ap (s : Int → Int) (i v j : Int) : sset s i v j = if j = i then v else s j := rfl
theorem jrow_same {J : zJ} {a : Nat} {f : Int → Int} : jrow J a f a = f := if_pos rfl
theorem jrow_ne {J : zJ} {a r : Nat} {f : Int → Int} (h : r ≠ a) : jrow J a f r = J r := if_neg h
theorem jrow_jrow {J : zJ} {a : Nat} {f g : Int → Int} : jrow (jrow J a f) a g = jrow J a g := by
  funext x
  unfold jrow
  split <;> rfl
theorem jrow_id {J : zJ} {a : Nat} : jrow J a (J a) = J := by
  funext x
  unfold jrow
  split
  · rename_i h; rw [h]
  · rfl
theorem jm_n {J : zJ} {a n : Nat} : jm J a n = jI (J a (n : Int)) := rfl
theorem jm_0 {J : zJ} {a : Nat} : jm J a 0 = jI (J a 0) := rfl
theorem jm_1 {J : zJ} {a : Nat} : jm J a 1 = jI (J a 1) := rfl
theorem jm_l {J : zJ} {a n : Nat} : jm J a (no_index (OfNat.ofNat n)) = jI (J a (no_index (OfNat.ofNat n))) := rfl
theorem i_lit {n : Nat} : ((no_index (OfNat.ofNat n) : Nat) : Int) = no_index (OfNat.ofNat n) := rfl
theorem i_c0 : ((0 : Nat) : Int) = 0 := rfl
theorem i_c1 : ((1 : Nat) : Int) = 1 := rfl
theorem jm_t {J : zJ} {a : Nat} {i : Int} (h : 0 ≤ i) : jm J a i.toNat = jI (J a i) := by
  unfold jm
  rw [Int.toNat_of_nonneg h]
theorem jm_cl {J : zJ} {a : Nat} {i : Int} (h0 : 0 ≤ i) (h1 : i < 2147483648) : jm J a (jI i).toNatClampNeg = jI (J a i) := by
  rw [jI_cl (by omega) h1, jm_t h0]
theorem jz_n {J : zJ} {a n : Nat} {v : Int} : zset (jm J) a n (jI v) = jm (jrow J a (sset (J a) (n : Int) v)) := by
  funext x y
  unfold zset jm jrow sset
  by_cases h : x = a
  · by_cases h2 : y = n
    · rw [if_pos h, if_pos h2, if_pos h, if_pos (by rw [h2])]
    · rw [if_pos h, if_neg h2, if_pos h, if_neg (by omega), h]
  · rw [if_neg h, if_neg h]
theorem jz_0 {J : zJ} {a : Nat} {v : Int} : zset (jm J) a 0 (jI v) = jm (jrow J a (sset (J a) 0 v)) := jz_n
theorem jz_1 {J : zJ} {a : Nat} {v : Int} : zset (jm J) a 1 (jI v) = jm (jrow J a (sset (J a) 1 v)) := jz_n
theorem jz_l {J : zJ} {a n : Nat} {v : Int} : zset (jm J) a (no_index (OfNat.ofNat n)) (jI v) = jm (jrow J a (sset (J a) (no_index (OfNat.ofNat n)) v)) := jz_n
theorem jz_t {J : zJ} {a : Nat} {i v : Int} (h : 0 ≤ i) : zset (jm J) a i.toNat (jI v) = jm (jrow J a (sset (J a) i v)) := by
  rw [jz_n, Int.toNat_of_nonneg h]
theorem jz_cl {J : zJ} {a : Nat} {i v : Int} (h0 : 0 ≤ i) (h1 : i < 2147483648) : zset (jm J) a (jI i).toNatClampNeg (jI v) = jm (jrow J a (sset (J a) i v)) := by
  rw [jI_cl (by omega) h1, jz_t h0]
theorem jI_inv (x : Int32) : x = jI x.toInt := (jI_of x).symm
/-- row a's first n places out of f -/
def scpy (f g : Int → Int) (n : Int) : Int → Int := fun y => if 0 ≤ y ∧ y < n then f y else g y
def sfil (v : Int) (g : Int → Int) (n : Int) : Int → Int := fun y => if 0 ≤ y ∧ y < n then v else g y
theorem scpy_in {f g : Int → Int} {n y : Int} (h0 : 0 ≤ y) (h1 : y < n) : scpy f g n y = f y := if_pos ⟨h0, h1⟩
theorem sfil_in {v : Int} {g : Int → Int} {n y : Int} (h0 : 0 ≤ y) (h1 : y < n) : sfil v g n y = v := if_pos ⟨h0, h1⟩
theorem jz_cpy {J : zJ} {a b n : Nat} : zcpy (jm J) a b 0 0 n = jm (jrow J b (scpy (J a) (J b) n)) := by
  funext x y
  unfold zcpy jm jrow scpy
  by_cases h : x = b
  · by_cases h2 : y < n
    · rw [if_pos h, if_pos ⟨by omega, by omega⟩, if_pos h, if_pos ⟨by omega, by omega⟩]
      simp
    · rw [if_pos h, if_neg (by omega), if_pos h, if_neg (by omega)]
  · rw [if_neg h, if_neg h]
/-! comparisons with 0 -/
theorem jI_lt0 {a : Int} (h1 : -2147483648 ≤ a) (h2 : a < 2147483648) : (jI a < 0) = (a < 0) := jI_lt (b := 0) h1 h2 (by decide) (by decide)
theorem jI_0lt {a : Int} (h1 : -2147483648 ≤ a) (h2 : a < 2147483648) : (0 < jI a) = (0 < a) := jI_lt (a := 0) (by decide) (by decide) h1 h2
theorem jI_le0 {a : Int} (h1 : -2147483648 ≤ a) (h2 : a < 2147483648) : (jI a ≤ 0) = (a ≤ 0) := jI_le (b := 0) h1 h2 (by decide) (by decide)
theorem jI_0le {a : Int} (h1 : -2147483648 ≤ a) (h2 : a < 2147483648) : (0 ≤ jI a) = (0 ≤ a) := jI_le (a := 0) (by decide) (by decide) h1 h2
theorem jI_eq0 {a : Int} (h1 : -2147483648 ≤ a) (h2 : a < 2147483648) : (jI a = 0) = (a = 0) := jI_eq (b := 0) h1 h2 (by decide) (by decide)
theorem zrokJ0 : (zrok (some .boolean) (jI 0) = true) = True := by decide
theorem zrokJ1 : (zrok (some .boolean) (jI 1) = true) = True := by decide
theorem b2_j (b : Bool) : b2 b = jI (if b = true then 1 else 0) := by cases b <;> rfl
theorem i_mod (a b : Int) : a - a / b * b = a % b := by rw [Int.emod_def, Int.mul_comm]
/-! outcomes -/
abbrev oI (x : Int) : zO := .inl (some (.int (jI x)))
abbrev oB (b : Bool) : zO := .inl (some (.int (b2 b)))
abbrev oR (r : Nat) : zO := .inl (some (.ref r))
abbrev oV : zO := .inl none
abbrev oE (n : Nat) : zO := .inr n
/-- method y, from the memory J on, ends with o and the memory J' -/
def Rn (W : zW) (y : Nat) (L : List Value) (J : zJ) (o : zO) (J' : zJ) : Prop := ∀ Q, wz W y 0 L [] (jm J) Q = Q o (jm J')
theorem Rn.eq {W : zW} {y : Nat} {L : List Value} {J : zJ} {o : zO} {J' : zJ} (h : Rn W y L J o J') (Q : zO → zI → Prop) : wz W y 0 L [] (jm J) Q = Q o (jm J') := h Q
section
variable {W : zW} {J : zJ} {Q : zO → zI → Prop}
/-! ===== rows ===== -/
theorem sp_45 {r n : Nat} {i : Int} (hr : zRow r n) (h0 : 0 ≤ i) (h1 : i < n) (hn : n ≤ 100000) : wz W 45 0 [.ref r, .int (jI i)] [] (jm J) Q = Q (oI (J (r + 1) i)) (jm J) := by
  rw [sg_45_0 W _ Q r n _ hr]
  simp (disch := first | assumption | omega) only [sg_45_22, sg_45_23 (nr := n), zk_l, zk_r, Option.toList_some, Option.toList_none, List.cons_append, List.nil_append, zrokB, zrokB0, zrokB1, zrokJ0, zrokJ1, and_true, true_and, and_self, if_true, if_false, b2_0, b2_1, b2_not, ite_self, Int.add_zero, jI_nat, jI_add, jI_sub, jI_mul, jI_neg, jI_lt, jI_le, jI_eq, jI_lt0, jI_0lt, jI_le0, jI_0le, jI_eq0, jI_in, jI_dv, i_mod, jI_cl, jm_n, jz_n, i_lit, i_c0, i_c1, Int.toNat_of_nonneg, Int.toNat_natCast, jrow_same, jrow_ne, jrow_jrow, sset_eq, sset_ne]
  rw [if_neg (by omega), if_neg (by omega)]
theorem sp_45x {r n : Nat} {i : Int} (hr : zRow r n) (hb : -2147483648 ≤ i) (hb2 : i < 2147483648) (h1 : i < 0 ∨ n ≤ i) (hn : n ≤ 100000) : wz W 45 0 [.ref r, .int (jI i)] [] (jm J) Q = Q (oI (-1)) (jm J) := by
  rw [sg_45_0 W _ Q r n _ hr]
  simp (disch := first | assumption | omega) only [sg_45_22 (nr := n), sg_45_23 (nr := n), zk_l, zk_r, Option.toList_some, Option.toList_none, List.cons_append, List.nil_append, zrokB, zrokB0, zrokB1, zrokJ0, zrokJ1, and_true, true_and, and_self, if_true, if_false, b2_0, b2_1, b2_not, ite_self, Int.add_zero, jI_nat, jI_add, jI_sub, jI_mul, jI_neg, jI_lt, jI_le, jI_eq, jI_lt0, jI_0lt, jI_le0, jI_0le, jI_eq0, jI_in, jI_dv, i_mod]
  by_cases h : i < 0
  · rw [if_pos h]
  · rw [if_neg h, if_pos (by omega)]
theorem sp_46 {r n : Nat} {i v : Int} (hr : zRow r n) (h0 : 0 ≤ i) (h1 : i < n) (hn : n ≤ 100000) : wz W 46 0 [.ref r, .int (jI i), .int (jI v)] [] (jm J) Q = Q oV (jm (jrow J (r + 1) (sset (J (r + 1)) i v))) := by
  rw [sg_46_0 W _ Q r n _ _ hr]
  simp (disch := first | assumption | omega) only [sg_46_20 (nr := n), zk_l, zk_r, Option.toList_some, Option.toList_none, List.cons_append, List.nil_append, zrokB, zrokB0, zrokB1, zrokJ0, zrokJ1, and_true, true_and, and_self, if_true, if_false, b2_0, b2_1, b2_not, ite_self, Int.add_zero, jI_nat, jI_add, jI_sub, jI_mul, jI_neg, jI_lt, jI_le, jI_eq, jI_lt0, jI_0lt, jI_le0, jI_0le, jI_eq0, jI_in, jI_dv, i_mod, jI_cl, jm_n, jz_n, i_lit, i_c0, i_c1, Int.toNat_of_nonneg, Int.toNat_natCast, jrow_same, jrow_ne, jrow_jrow, sset_eq, sset_ne]
  rw [if_neg (by omega), if_neg (by omega)]
theorem sp_47 {r n : Nat} {i v : Int} (hr : zRow r n) (h0 : 0 ≤ i) (h1 : i < n) (hn : n ≤ 100000) : wz W 47 0 [.ref r, .int (jI i), .int (jI v)] [] (jm J) Q = Q oV (jm (jrow J (r + 1) (sset (J (r + 1)) i (J (r + 1) i + v)))) := by
  rw [sg_47_0 W _ Q r n _ _ hr]
  simp (disch := first | assumption | omega) only [sg_47_23 (nr := n), zk_l, zk_r, Option.toList_some, Option.toList_none, List.cons_append, List.nil_append, zrokB, zrokB0, zrokB1, zrokJ0, zrokJ1, and_true, true_and, and_self, if_true, if_false, b2_0, b2_1, b2_not, ite_self, Int.add_zero, jI_nat, jI_add, jI_sub, jI_mul, jI_neg, jI_lt, jI_le, jI_eq, jI_lt0, jI_0lt, jI_le0, jI_0le, jI_eq0, jI_in, jI_dv, i_mod, jI_cl, jm_n, jz_n, i_lit, i_c0, i_c1, Int.toNat_of_nonneg, Int.toNat_natCast, jrow_same, jrow_ne, jrow_jrow, sset_eq, sset_ne]
  rw [if_neg (by omega), if_neg (by omega)]
theorem sfil_0 {v : Int} {g : Int → Int} : sfil v g 0 = g := by
  funext y
  unfold sfil
  rw [if_neg (by omega)]
theorem sfil_s {v : Int} {g : Int → Int} {k : Nat} : sset (sfil v g k) k v = sfil v g ((k : Int) + 1) := by
  funext y
  unfold sset sfil
  by_cases h : y = k
  · rw [if_pos h, if_pos (by omega)]
  · rw [if_neg h]
    by_cases h2 : 0 ≤ y ∧ y < k
    · rw [if_pos h2, if_pos (by omega)]
    · rw [if_neg h2, if_neg (by omega)]
theorem sp_338 {r n : Nat} {v : Int} (hr : zArr r n) (hn : n ≤ 100000) : wz W 338 0 [.ref r, .int (jI v), .float 0, .float 0] [] (jm J) Q = Q oV (jm (jrow J r (sfil v (J r) n))) := by
  rw [sg_338_0 W _ Q r n _ hr]
  have key := zloop (f := fun k => wz W 338 5 [.ref r, .int (jI v), .int (jI k), .int (Int32.ofNat n)] [] (jm (jrow J r (sfil v (J r) k))) Q) n (fun k hk => by
    try simp only
    rw [sg_338_5 W _ Q r n _ _ _ hr]
    simp (disch := first | assumption | omega) only [zk_l, zk_r, Option.toList_some, Option.toList_none, List.cons_append, List.nil_append, zrokB, zrokB0, zrokB1, zrokJ0, zrokJ1, and_true, true_and, and_self, if_true, if_false, b2_0, b2_1, b2_not, ite_self, Int.add_zero, jI_nat, jI_add, jI_sub, jI_mul, jI_neg, jI_lt, jI_le, jI_eq, jI_lt0, jI_0lt, jI_le0, jI_0le, jI_eq0, jI_in, jI_dv, i_mod, jI_cl, jm_n, jz_n, i_lit, i_c0, i_c1, Int.toNat_of_nonneg, Int.toNat_natCast, jrow_same, jrow_ne, jrow_jrow, sset_eq, sset_ne]
    rw [if_neg (by omega), sfil_s]
    rfl)
  have e : jrow J r (sfil v (J r) ((0 : Nat) : Int)) = J := by
    rw [show ((0 : Nat) : Int) = 0 from rfl, sfil_0, jrow_id]
  simp only [e] at key
  refine Eq.trans key ?_
  rw [sg_338_5 W _ Q r n _ _ _ hr]
  simp (disch := first | assumption | omega) only [Int.add_zero, jI_nat, jI_add, jI_sub, jI_mul, jI_neg, jI_lt, jI_le, jI_eq, jI_lt0, jI_0lt, jI_le0, jI_0le, jI_eq0, jI_in, jI_dv, i_mod]
  rw [if_pos (by omega)]
theorem sp_48 {r n : Nat} {v : Int} (hr : zRow r n) (hn : n ≤ 100000) : wz W 48 0 [.ref r, .int (jI v)] [] (jm J) Q = Q oV (jm (jrow J (r + 1) (sfil v (J (r + 1)) n))) := by
  rw [sg_48_0 W _ Q r n _ hr, sp_338 (n := n) hr.2 hn]
  simp only [sg_48_8 (nr := n) (hr := hr), zk_l, zk_r, Option.toList_some, Option.toList_none, List.cons_append, List.nil_append, zrokB, zrokB0, zrokB1, zrokJ0, zrokJ1, and_true, true_and, and_self, if_true, if_false, b2_0, b2_1, b2_not, ite_self]
theorem sp_49 {r q n : Nat} (hr : zRow r n) (hq : zRow q n) (hn : n ≤ 100000) : wz W 49 0 [.ref r, .ref q, .float 0] [] (jm J) Q = Q oV (jm (jrow J (r + 1) (scpy (J (q + 1)) (J (r + 1)) n))) := by
  have e1 : jmin (Int32.ofNat n) (Int32.ofNat n) = jI n := by
    unfold jmin
    rw [ite_self]
    rfl
  have e2 : (jI (n : Int)).toNatClampNeg = n := by rw [jI_cl (by omega) (by omega)]; rfl
  have hz : (0 : Int32).toNatClampNeg = 0 := by decide
  have hc : zcopy (Hc, jm J, W) (q + 1) (Int32.ofInt 0) (r + 1) (Int32.ofInt 0) (jI n) = some (Hc, jm (jrow J (r + 1) (scpy (J (q + 1)) (J (r + 1)) n)), W) := by
    unfold zcopy
    rw [hr.2, hq.2]
    try simp only
    rw [if_pos]
    · rw [e2, show (Int32.ofInt 0).toNatClampNeg = 0 by decide, jz_cpy]
    · rw [e2, show (Int32.ofInt 0).toNatClampNeg = 0 by decide]
      refine ⟨trivial, trivial, by decide, by decide, ?_, by omega, by omega⟩
      rw [jI_lt0 (by omega) (by omega)]
      omega
  refine (wz_go 1 (pc' := 1) (L' := [.ref r, .ref q, .float 0]) (S' := [.ref r]) (I' := jm J) rfl).trans ?_
  refine (wz_gf (v := .ref (r + 1)) rfl (zget_R (ci := 5) (by decide) hr.1 rfl)).trans ?_
  refine (wz_al rfl hr.2).trans ?_
  refine (wz_go 1 (pc' := 6) (L' := [.ref r, .ref q, .float 0]) (S' := [.ref q, .int (Int32.ofNat n)]) (I' := jm J) rfl).trans ?_
  refine (wz_gf (v := .ref (q + 1)) rfl (zget_R (ci := 5) (by decide) hq.1 rfl)).trans ?_
  refine (wz_al rfl hq.2).trans ?_
  refine (wz_go 3 (pc' := 15) (L' := [.ref r, .ref q, .int (jmin (Int32.ofNat n) (Int32.ofNat n))]) (S' := [.ref q]) (I' := jm J) rfl).trans ?_
  rw [e1]
  refine (wz_gf (v := .ref (q + 1)) rfl (zget_R (ci := 5) (by decide) hq.1 rfl)).trans ?_
  refine (wz_go 2 (pc' := 20) (L' := [.ref r, .ref q, .int (jI n)]) (S' := [.ref r, .int (Int32.ofInt 0), .ref (q + 1)]) (I' := jm J) rfl).trans ?_
  refine (wz_gf (v := .ref (r + 1)) rfl (zget_R (ci := 5) (by decide) hr.1 rfl)).trans ?_
  refine (wz_go 2 (pc' := 25) (L' := [.ref r, .ref q, .int (jI n)]) (S' := [.int (jI n), .int (Int32.ofInt 0), .ref (r + 1), .int (Int32.ofInt 0), .ref (q + 1)]) (I' := jm J) rfl).trans ?_
  refine (wz_st (pc' := 28) (L' := [.ref r, .ref q, .int (jI n)]) (S' := []) (I' := jm (jrow J (r + 1) (scpy (J (q + 1)) (J (r + 1)) n))) rfl ?_).trans ?_
  · simp only [zstep, hc]
    rfl
  · exact wz_ret rfl rfl
end
