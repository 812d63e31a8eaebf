/-! ===== tokens of a text f of n bytes ===== -/
def tqO (c : Int) : Int := if 97 ≤ c ∧ c ≤ 122 then 1 else if 48 ≤ c ∧ c ≤ 57 then 2 else 3
def tqS (f : Int → Int) (n e : Int) : Int := e + ((zfst (fun k => !decide (f (e + (k : Int)) = 32)) (n - e).toNat : Nat) : Int)
def tqK (f : Int → Int) (n e : Int) : Int := if tqS f n e < n then tqO (f (tqS f n e)) else 0
def tqE (f : Int → Int) (n e : Int) : Int := if tqK f n e = 3 then tqS f n e + 1 else tqS f n e + ((zfst (fun k => !decide (tqO (f (tqS f n e + (k : Int))) = tqK f n e)) (n - tqS f n e).toNat : Nat) : Int)
def txt (g f : Int → Int) (n : Int) : Prop := 0 ≤ n ∧ n ≤ 900 ∧ ∀ i, 0 ≤ i → i < n → g i = f i ∧ 1 ≤ f i ∧ f i ≤ 255
section
variable {a b : Int} {A B : Prop}
theorem ifE (h1 : -2147483648 ≤ a) (h2 : a < 2147483648) (h3 : -2147483648 ≤ b) (h4 : b < 2147483648) : (if jI a = jI b then A else B) = (if a = b then A else B) := by simp only [jI_eq h1 h2 h3 h4]
theorem ifL (h1 : -2147483648 ≤ a) (h2 : a < 2147483648) (h3 : -2147483648 ≤ b) (h4 : b < 2147483648) : (if jI a ≤ jI b then A else B) = (if a ≤ b then A else B) := by simp only [jI_le h1 h2 h3 h4]
theorem ifT (h1 : -2147483648 ≤ a) (h2 : a < 2147483648) (h3 : -2147483648 ≤ b) (h4 : b < 2147483648) : (if jI a < jI b then A else B) = (if a < b then A else B) := by simp only [jI_lt h1 h2 h3 h4]
theorem ifE0 (h1 : -2147483648 ≤ a) (h2 : a < 2147483648) : (if jI a = 0 then A else B) = (if a = 0 then A else B) := by simp only [jI_eq0 h1 h2]
theorem if0L (h1 : -2147483648 ≤ a) (h2 : a < 2147483648) : (if 0 ≤ jI a then A else B) = (if 0 ≤ a then A else B) := by simp only [jI_0le h1 h2]
theorem ifT0 (h1 : -2147483648 ≤ a) (h2 : a < 2147483648) : (if jI a < 0 then A else B) = (if a < 0 then A else B) := by simp only [jI_lt0 h1 h2]
end
theorem tqO_b (c : Int) : 1 ≤ tqO c ∧ tqO c ≤ 3 := by
  unfold tqO
  split
  · omega
  · split <;> omega
theorem tqO_1 {c : Int} (h : tqO c = 1) : 97 ≤ c ∧ c ≤ 122 := by
  unfold tqO at h
  split at h
  · assumption
  · split at h <;> omega
theorem tqO_2 {c : Int} (h : tqO c = 2) : 48 ≤ c ∧ c ≤ 57 := by
  unfold tqO at h
  split at h
  · omega
  · split at h
    · assumption
    · omega
theorem tqS_b {f : Int → Int} {n e : Int} (e1 : e ≤ n) : e ≤ tqS f n e ∧ tqS f n e ≤ n := by
  unfold tqS
  have := zfst_le (fun k : Nat => !decide (f (e + (k : Int)) = 32)) (n - e).toNat
  omega
theorem tqS_32 {f : Int → Int} {n e : Int} (e1 : e ≤ n) (h : tqS f n e < n) : f (tqS f n e) ≠ 32 := by
  unfold tqS at h ⊢
  have h1 := zfst_yes (fun k : Nat => !decide (f (e + (k : Int)) = 32)) (n - e).toNat (by omega)
  simpa using h1
theorem tqK_b (f : Int → Int) (n e : Int) : 0 ≤ tqK f n e ∧ tqK f n e ≤ 3 := by
  unfold tqK
  split
  · have := tqO_b (f (tqS f n e)); omega
  · omega
theorem tqK_lt {f : Int → Int} {n e : Int} (h : tqK f n e ≠ 0) : tqS f n e < n := by
  unfold tqK at h
  split at h
  · assumption
  · exact absurd rfl h
theorem tqK_0 {f : Int → Int} {n e : Int} (h : tqK f n e = 0) (e1 : e ≤ n) : tqS f n e = n := by
  have hS := tqS_b (f := f) e1
  unfold tqK at h
  split at h
  · have := tqO_b (f (tqS f n e)); omega
  · omega
theorem tqE_b {f : Int → Int} {n e : Int} (e1 : e ≤ n) : tqS f n e ≤ tqE f n e ∧ tqE f n e ≤ n := by
  have hS := tqS_b (f := f) e1
  unfold tqE
  split
  · rename_i h
    have := tqK_lt (f := f) (n := n) (e := e) (by omega)
    omega
  · have := zfst_le (fun k : Nat => !decide (tqO (f (tqS f n e + (k : Int))) = tqK f n e)) (n - tqS f n e).toNat
    omega
theorem tqE_in {f : Int → Int} {n e : Int} (h : tqK f n e ≠ 3) {i : Int} (h0 : tqS f n e ≤ i) (h1 : i < tqE f n e) : tqO (f i) = tqK f n e := by
  unfold tqE at h1
  rw [if_neg h] at h1
  have h2 := zfst_no (fun k : Nat => !decide (tqO (f (tqS f n e + (k : Int))) = tqK f n e)) (n - tqS f n e).toNat (i - tqS f n e).toNat (by omega)
  have h3 : tqO (f (tqS f n e + ((i - tqS f n e).toNat : Int))) = tqK f n e := by simpa using h2
  rw [show tqS f n e + ((i - tqS f n e).toNat : Int) = i by omega] at h3
  exact h3
theorem tqE_3 {f : Int → Int} {n e : Int} (h : tqK f n e = 3) : tqE f n e = tqS f n e + 1 := by
  unfold tqE
  rw [if_pos h]
/-- a sign; a word; its code; a number's value -/
def tqG (f : Int → Int) (n e c : Int) : Bool := decide (tqK f n e = 3) && decide (f (tqS f n e) = c)
def tqW (f : Int → Int) (n e : Int) (i : Nat) : Bool := decide (tqK f n e = 1) && (decide (tqE f n e - tqS f n e = ((wdL i).length : Int)) && zAllB (fun j => decide (jI (f (tqS f n e + (j : Int))) = (wdL i).getD j 0)) (wdL i).length)
def cdL (f : Int → Int) (s : Int) : Nat → Int
  | 0 => 0
  | k + 1 => 32 * cdL f s k + (f (s + (k : Int)) - 96)
def tqC (f : Int → Int) (n e : Int) : Int := if tqK f n e = 1 ∧ tqE f n e - tqS f n e ≤ 6 then cdL f (tqS f n e) (tqE f n e - tqS f n e).toNat else -1
def vlL (f : Int → Int) (s : Int) : Nat → Int
  | 0 => 0
  | k + 1 => 10 * vlL f s k + (f (s + (k : Int)) - 48)
def tqV (f : Int → Int) (n e : Int) : Int := vlL f (tqS f n e) (tqE f n e - tqS f n e).toNat
theorem cdL_b {f : Int → Int} {s : Int} : ∀ k : Nat, (∀ j : Nat, j < k → 97 ≤ f (s + (j : Int)) ∧ f (s + (j : Int)) ≤ 122) → 0 ≤ cdL f s k ∧ cdL f s k + 1 ≤ 32 ^ k := by
  intro k
  induction k with
  | zero => intro _; exact ⟨Int.le_refl 0, (by decide : (0 : Int) + 1 ≤ 32 ^ 0)⟩
  | succ k ih =>
    intro h
    obtain ⟨i1, i2⟩ := ih (fun j hj => h j (by omega))
    obtain ⟨h1, h2⟩ := h k (by omega)
    have e : (32 : Int) ^ (k + 1) = 32 ^ k * 32 := Int.pow_succ 32 k
    show 0 ≤ 32 * cdL f s k + (f (s + (k : Int)) - 96) ∧ 32 * cdL f s k + (f (s + (k : Int)) - 96) + 1 ≤ 32 ^ (k + 1)
    rw [e]
    generalize (32 : Int) ^ k = p at *
    omega
theorem cdL_p {f : Int → Int} {s : Int} (k : Nat) (hk : k < 7) (h : ∀ j : Nat, j < k → 97 ≤ f (s + (j : Int)) ∧ f (s + (j : Int)) ≤ 122) : 0 ≤ cdL f s k ∧ cdL f s k < 1073741824 ∧ (0 < k → 1 ≤ cdL f s k) := by
  obtain ⟨i1, i2⟩ := cdL_b k h
  have e : ∀ k : Nat, k < 7 → (32 : Int) ^ k ≤ 1073741824 := by decide
  have := e k hk
  refine ⟨i1, by omega, fun h0 => ?_⟩
  cases k with
  | zero => omega
  | succ k =>
    obtain ⟨i3, -⟩ := cdL_b k (fun j hj => h j (by omega))
    obtain ⟨h1, h2⟩ := h k (by omega)
    show 1 ≤ 32 * cdL f s k + (f (s + (k : Int)) - 96)
    omega
/-- a code tells its letters -/
theorem cdL_u {f g : Int → Int} {s t : Int} : ∀ k m : Nat, (∀ j : Nat, j < k → 97 ≤ f (s + (j : Int)) ∧ f (s + (j : Int)) ≤ 122) → (∀ j : Nat, j < m → 97 ≤ g (t + (j : Int)) ∧ g (t + (j : Int)) ≤ 122) → cdL f s k = cdL g t m → k = m ∧ ∀ j : Nat, j < k → f (s + (j : Int)) = g (t + (j : Int)) := by
  intro k
  induction k with
  | zero =>
    intro m _ hg h
    cases m with
    | zero => exact ⟨rfl, fun j hj => absurd hj (Nat.not_lt_zero j)⟩
    | succ m =>
      exfalso
      obtain ⟨i3, -⟩ := cdL_b m (fun j hj => hg j (by omega))
      obtain ⟨h1, h2⟩ := hg m (by omega)
      have h' : (0 : Int) = 32 * cdL g t m + (g (t + (m : Int)) - 96) := h
      omega
  | succ k ih =>
    intro m hf hg h
    obtain ⟨i1, -⟩ := cdL_b k (fun j hj => hf j (by omega))
    obtain ⟨f1, f2⟩ := hf k (by omega)
    cases m with
    | zero =>
      exfalso
      have h' : 32 * cdL f s k + (f (s + (k : Int)) - 96) = (0 : Int) := h
      omega
    | succ m =>
      obtain ⟨i3, -⟩ := cdL_b m (fun j hj => hg j (by omega))
      obtain ⟨g1, g2⟩ := hg m (by omega)
      have h' : 32 * cdL f s k + (f (s + (k : Int)) - 96) = 32 * cdL g t m + (g (t + (m : Int)) - 96) := h
      obtain ⟨e, ej⟩ := ih m (fun j hj => hf j (by omega)) (fun j hj => hg j (by omega)) (by omega)
      subst e
      refine ⟨rfl, fun j hj => ?_⟩
      by_cases q : j = k
      · subst q; omega
      · exact ej j (by omega)
theorem vlL_b {f : Int → Int} {s : Int} : ∀ k : Nat, (∀ j : Nat, j < k → 48 ≤ f (s + (j : Int)) ∧ f (s + (j : Int)) ≤ 57) → 0 ≤ vlL f s k ∧ vlL f s k + 1 ≤ 10 ^ k := by
  intro k
  induction k with
  | zero => intro _; exact ⟨Int.le_refl 0, (by decide : (0 : Int) + 1 ≤ 10 ^ 0)⟩
  | succ k ih =>
    intro h
    obtain ⟨i1, i2⟩ := ih (fun j hj => h j (by omega))
    obtain ⟨h1, h2⟩ := h k (by omega)
    have e : (10 : Int) ^ (k + 1) = 10 ^ k * 10 := Int.pow_succ 10 k
    show 0 ≤ 10 * vlL f s k + (f (s + (k : Int)) - 48) ∧ 10 * vlL f s k + (f (s + (k : Int)) - 48) + 1 ≤ 10 ^ (k + 1)
    rw [e]
    generalize (10 : Int) ^ k = p at *
    omega
theorem vlL_p {f : Int → Int} {s : Int} (k : Nat) (hk : k < 5) (h : ∀ j : Nat, j < k → 48 ≤ f (s + (j : Int)) ∧ f (s + (j : Int)) ≤ 57) : 0 ≤ vlL f s k ∧ vlL f s k < 10000 := by
  obtain ⟨i1, i2⟩ := vlL_b k h
  have e : ∀ k : Nat, k < 5 → (10 : Int) ^ k ≤ 10000 := by decide
  have := e k hk
  exact ⟨i1, by omega⟩
/-- the letters and digits of a token -/
theorem tq_let {f : Int → Int} {n e : Int} (h : tqK f n e = 1) : ∀ j : Nat, j < (tqE f n e - tqS f n e).toNat → 97 ≤ f (tqS f n e + (j : Int)) ∧ f (tqS f n e + (j : Int)) ≤ 122 :=
  fun j hj => tqO_1 ((tqE_in (by omega) (by omega) (by omega)).trans h)
theorem tq_dig {f : Int → Int} {n e : Int} (h : tqK f n e = 2) : ∀ j : Nat, j < (tqE f n e - tqS f n e).toNat → 48 ≤ f (tqS f n e + (j : Int)) ∧ f (tqS f n e + (j : Int)) ≤ 57 :=
  fun j hj => tqO_2 ((tqE_in (by omega) (by omega) (by omega)).trans h)
theorem tqC_b (f : Int → Int) (n e : Int) : -1 ≤ tqC f n e ∧ tqC f n e < 1073741824 := by
  unfold tqC
  split
  · rename_i h
    obtain ⟨h1, h2, -⟩ := cdL_p (f := f) (s := tqS f n e) (tqE f n e - tqS f n e).toNat (by omega) (tq_let h.1)
    omega
  · omega
theorem tqV_b {f : Int → Int} {n e : Int} (h : tqK f n e = 2) (h4 : tqE f n e - tqS f n e ≤ 4) : 0 ≤ tqV f n e ∧ tqV f n e < 10000 := vlL_p _ (by omega) (tq_dig h)
/-- a word of at least one letter -/
theorem tqE_1 {f : Int → Int} {n e : Int} (h : tqK f n e = 1) (e1 : e ≤ n) : tqS f n e < tqE f n e := by
  have hl := tqK_lt (f := f) (n := n) (e := e) (by omega)
  unfold tqE
  rw [if_neg (by omega)]
  have hz : zfst (fun k : Nat => !decide (tqO (f (tqS f n e + (k : Int))) = tqK f n e)) (n - tqS f n e).toNat ≠ 0 := by
    intro h9
    have h1 := zfst_yes (fun k : Nat => !decide (tqO (f (tqS f n e + (k : Int))) = tqK f n e)) (n - tqS f n e).toNat (by omega)
    rw [h9] at h1
    have h2 : ¬ tqO (f (tqS f n e + ((0 : Nat) : Int))) = tqK f n e := by simpa using h1
    apply h2
    rw [show tqS f n e + ((0 : Nat) : Int) = tqS f n e by omega]
    unfold tqK
    rw [if_pos hl]
  omega
/-- the code of word i -/
def cdW (i : Nat) : Int := cdL (fun j => ((wdL i).getD j.toNat 0).toInt) 0 (wdL i).length
theorem tqW_C {f : Int → Int} {n e : Int} {i : Nat} (hi : i < 7) (h : tqK f n e = 1) (h6 : tqE f n e - tqS f n e ≤ 6) (e1 : e ≤ n) (hc : tqC f n e = cdW i) : tqW f n e i = true := by
  have hE := tqE_b (f := f) e1
  unfold tqC at hc
  rw [if_pos ⟨h, h6⟩] at hc
  have hw : ∀ i, i < 7 → ∀ j : Nat, j < (wdL i).length → 97 ≤ (fun j : Int => ((wdL i).getD j.toNat 0).toInt) (0 + (j : Int)) ∧ (fun j : Int => ((wdL i).getD j.toNat 0).toInt) (0 + (j : Int)) ≤ 122 := by decide +kernel
  obtain ⟨u1, u2⟩ := cdL_u _ _ (tq_let h) (hw i hi) hc
  unfold tqW
  rw [decide_eq_true h, Bool.true_and, decide_eq_true (by omega), Bool.true_and, zAllB_iff]
  intro j hj
  rw [decide_eq_true_eq]
  have h9 := u2 j (by omega)
  try simp only at h9
  rw [h9, jI_of, Int.zero_add, Int.toNat_natCast]
theorem jor5 {a d : Int} (a0 : 0 ≤ a) (a1 : a < 67108864) (d0 : 0 ≤ d) (d1 : d < 32) : (jI a <<< (jI 5 &&& 31)) ||| jI d = jI (32 * a + d) := by
  have hA : ∀ x : Int, 0 ≤ x → x < 2147483648 → (jI x).toBitVec.toNat = x.toNat := by
    intro x x0 x1
    show (BitVec.ofInt 32 x).toNat = x.toNat
    rw [BitVec.toNat_ofInt]
    omega
  have hb : ∀ (x : Int) (i : Nat), 0 ≤ x → x < 2147483648 → bt (jI x) i = x.toNat.testBit i := by
    intro x i x0 x1
    unfold bt
    rw [BitVec.getLsbD, hA x x0 x1]
  refine b_ext (fun i hi => ?_)
  rw [b_or, b_shlj (k := 5) (by decide) (by decide) _ hi, hb a _ a0 (by omega), hb d _ d0 (by omega), hb (32 * a + d) _ (by omega) (by omega)]
  have e : (32 * a + d).toNat = 2 ^ 5 * a.toNat + d.toNat := by omega
  rw [e, Nat.testBit_two_pow_mul_add _ (by omega)]
  show (decide (5 ≤ i) && a.toNat.testBit (i - 5) || d.toNat.testBit i) = _
  by_cases h : i < 5
  · rw [if_pos h, decide_eq_false (by omega), Bool.false_and, Bool.false_or]
  · rw [if_neg h, decide_eq_true (by omega), Bool.true_and]
    have : d.toNat.testBit i = false := Nat.testBit_lt_two_pow (Nat.lt_of_lt_of_le (show d.toNat < 2 ^ 5 by omega) (Nat.pow_le_pow_right (by decide) (by omega)))
    rw [this, Bool.or_false]
/-! ===== the class's tokens ===== -/
theorem n11 : (1 : Nat) + 1 = 2 := rfl
/-- the parser stands at the token behind e -/
def PC (f : Int → Int) (n : Int) (J : zJ) (e : Int) : Prop := J 3 1 = n ∧ J 3 2 = tqK f n e ∧ J 3 3 = tqS f n e ∧ J 3 4 = tqE f n e
def tqR (f : Int → Int) (n e : Int) (r : Int → Int) : Int → Int := sset (sset (sset (sset r 3 (tqS f n e)) 4 (tqS f n e)) 2 (tqK f n e)) 4 (tqE f n e)
theorem PC_R {f : Int → Int} {n e : Int} {J : zJ} (h1 : J 3 1 = n) : PC f n (jrow J 3 (tqR f n e (J 3))) e := by
  unfold PC tqR
  simp (disch := first | assumption | omega) only [jrow_same, sset_eq, sset_ne]
  simp [h1]
section
variable {W : zW} {J : zJ} {Q : zO → zI → Prop} {f : Int → Int} {n e : Int}
theorem sp_45b {i : Int} (ht : txt (J 2) f n) (h0 : 0 ≤ i) (h1 : i < n) : wz W 45 0 [.ref 1, .int (jI i)] [] (jm J) Q = Q (oI (f i)) (jm J) := by
  have hn := ht.2.1
  rw [sp_45 zRow_1 h0 (by omega) (by decide)]
  have : J (1 + 1) i = f i := (ht.2.2 i h0 h1).1
  rw [this]
theorem sp_40 {c : Int} (c0 : 0 ≤ c) (c1 : c ≤ 255) : wz W 40 0 [.int (jI c)] [] (jm J) Q = Q (oI (tqO c)) (jm J) := by
  have h14 : wz W 40 14 [.int (jI c)] [] (jm J) Q = Q (oI (if 48 ≤ c ∧ c ≤ 57 then 2 else 3)) (jm J) := by
    rw [sg_40_14]
    simp (disch := first | assumption | omega) only [Int.add_zero, jI_nat, jI_add, jI_sub, jI_mul, jI_neg, jI_lt, jI_le, jI_eq, jI_lt0, jI_0lt, jI_le0, jI_0le, jI_eq0, jI_in, jI_dv, i_mod]
    by_cases h2 : c < 48
    · rw [if_pos h2, sg_40_30, sg_40_31, if_neg (show ¬ (48 ≤ c ∧ c ≤ 57) by omega)]
    · rw [if_neg h2]
      by_cases h3 : 57 < c
      · rw [if_pos h3, sg_40_30, sg_40_31, if_neg (show ¬ (48 ≤ c ∧ c ≤ 57) by omega)]
      · rw [if_neg h3, sg_40_31, if_pos (show 48 ≤ c ∧ c ≤ 57 by omega)]
  rw [sg_40_0]
  simp (disch := first | assumption | omega) only [Int.add_zero, jI_nat, jI_add, jI_sub, jI_mul, jI_neg, jI_lt, jI_le, jI_eq, jI_lt0, jI_0lt, jI_le0, jI_0le, jI_eq0, jI_in, jI_dv, i_mod]
  unfold tqO
  by_cases h : c < 97
  · rw [if_pos h, h14, if_neg (show ¬ (97 ≤ c ∧ c ≤ 122) by omega)]
  · rw [if_neg h]
    by_cases h3 : 122 < c
    · rw [if_pos h3, h14, if_neg (show ¬ (97 ≤ c ∧ c ≤ 122) by omega)]
    · rw [if_neg h3, if_pos (show 97 ≤ c ∧ c ≤ 122 by omega)]
/-- next -/
theorem sp_39 (ht : txt (J 2) f n) (h1 : J 3 1 = n) (h4 : J 3 4 = e) (e0 : 0 ≤ e) (e1 : e ≤ n) : wz W 39 0 [.ref 3] [] (jm J) Q = Q oV (jm (jrow J 3 (tqR f n e (J 3)))) := by
  have n0 := ht.1
  have n9 := ht.2.1
  have hf := ht.2.2
  have hS := tqS_b (f := f) e1
  have hK := tqK_b f n e
  have hE := tqE_b (f := f) e1
  have l1 : wz W 39 8 [.ref 3] [] (jm (jrow J 3 (sset (J 3) 3 (e + ((0 : Nat) : Int))))) Q = wz W 39 8 [.ref 3] [] (jm (jrow J 3 (sset (J 3) 3 (tqS f n e)))) Q := zloops (f := fun k : Nat => wz W 39 8 [.ref 3] [] (jm (jrow J 3 (sset (J 3) 3 (e + (k : Int))))) Q) (fun k => !decide (f (e + (k : Int)) = 32)) (n - e).toNat (fun k hk hc => by
    have hc : f (e + (k : Int)) = 32 := by simpa using hc
    try simp only
    rw [sg_39_8]
    simp (disch := first | assumption | omega) only [h1, zk_l, zk_r, Option.toList_some, Option.toList_none, List.cons_append, List.nil_append, zrokB, zrokB0, zrokB1, zrokJ0, zrokJ1, and_true, true_and, and_self, if_true, if_false, b2_0, b2_1, b2_not, ite_self, Int.add_zero, jI_nat, jI_add, jI_sub, jI_mul, jI_neg, jI_lt, jI_le, jI_eq, jI_lt0, jI_0lt, jI_le0, jI_0le, jI_eq0, jI_in, jI_dv, i_mod, jI_cl, jm_n, jz_n, i_lit, i_c0, i_c1, Int.toNat_of_nonneg, Int.toNat_natCast, jrow_same, jrow_ne, jrow_jrow, sset_eq, sset_ne]
    rw [if_neg (by omega), sp_45b (f := f) (n := n) (by exact ht) (by omega) (by omega)]
    simp only [zk_l, zk_r, Option.toList_some, Option.toList_none, List.cons_append, List.nil_append, zrokB, zrokB0, zrokB1, zrokJ0, zrokJ1, and_true, true_and, and_self, if_true, if_false, b2_0, b2_1, b2_not, ite_self]
    rw [hc, sg_39_30, if_pos rfl]
    simp (disch := first | assumption | omega) only [sset_ss, zk_l, zk_r, Option.toList_some, Option.toList_none, List.cons_append, List.nil_append, zrokB, zrokB0, zrokB1, zrokJ0, zrokJ1, and_true, true_and, and_self, if_true, if_false, b2_0, b2_1, b2_not, ite_self, Int.add_zero, jI_nat, jI_add, jI_sub, jI_mul, jI_neg, jI_lt, jI_le, jI_eq, jI_lt0, jI_0lt, jI_le0, jI_0le, jI_eq0, jI_in, jI_dv, i_mod, jI_cl, jm_n, jz_n, i_lit, i_c0, i_c1, Int.toNat_of_nonneg, Int.toNat_natCast, jrow_same, jrow_ne, jrow_jrow, sset_eq, sset_ne]
    rw [show e + (k : Int) + 1 = e + ((k + 1 : Nat) : Int) by omega])
  have l2 : wz W 39 8 [.ref 3] [] (jm (jrow J 3 (sset (J 3) 3 (tqS f n e)))) Q = wz W 39 48 [.ref 3] [] (jm (jrow J 3 (sset (J 3) 3 (tqS f n e)))) Q := by
    rw [sg_39_8]
    simp (disch := first | assumption | omega) only [h1, zk_l, zk_r, Option.toList_some, Option.toList_none, List.cons_append, List.nil_append, zrokB, zrokB0, zrokB1, zrokJ0, zrokJ1, and_true, true_and, and_self, if_true, if_false, b2_0, b2_1, b2_not, ite_self, Int.add_zero, jI_nat, jI_add, jI_sub, jI_mul, jI_neg, jI_lt, jI_le, jI_eq, jI_lt0, jI_0lt, jI_le0, jI_0le, jI_eq0, jI_in, jI_dv, i_mod, jI_cl, jm_n, jz_n, i_lit, i_c0, i_c1, Int.toNat_of_nonneg, Int.toNat_natCast, jrow_same, jrow_ne, jrow_jrow, sset_eq, sset_ne]
    by_cases c : n ≤ tqS f n e
    · rw [if_pos c]
    · have h32 := tqS_32 e1 (show tqS f n e < n by omega)
      have hb := (hf (tqS f n e) (by omega) (by omega)).2
      rw [if_neg c, sp_45b (f := f) (n := n) (by exact ht) (by omega) (by omega)]
      simp only [zk_l, zk_r, Option.toList_some, Option.toList_none, List.cons_append, List.nil_append, zrokB, zrokB0, zrokB1, zrokJ0, zrokJ1, and_true, true_and, and_self, if_true, if_false, b2_0, b2_1, b2_not, ite_self]
      rw [sg_39_30, if_neg (by rw [jI_eq (by omega) (by omega) (by omega) (by omega)]; exact h32)]
  have l3 : wz W 39 48 [.ref 3] [] (jm (jrow J 3 (sset (J 3) 3 (tqS f n e)))) Q = wz W 39 86 [.ref 3] [.int (jI (tqK f n e)), .ref 3] (jm (jrow J 3 (sset (sset (J 3) 3 (tqS f n e)) 4 (tqS f n e)))) Q := by
    rw [sg_39_48]
    simp (disch := first | assumption | omega) only [h1, zk_l, zk_r, Option.toList_some, Option.toList_none, List.cons_append, List.nil_append, zrokB, zrokB0, zrokB1, zrokJ0, zrokJ1, and_true, true_and, and_self, if_true, if_false, b2_0, b2_1, b2_not, ite_self, Int.add_zero, jI_nat, jI_add, jI_sub, jI_mul, jI_neg, jI_lt, jI_le, jI_eq, jI_lt0, jI_0lt, jI_le0, jI_0le, jI_eq0, jI_in, jI_dv, i_mod, jI_cl, jm_n, jz_n, i_lit, i_c0, i_c1, Int.toNat_of_nonneg, Int.toNat_natCast, jrow_same, jrow_ne, jrow_jrow, sset_eq, sset_ne]
    unfold tqK
    by_cases c : n ≤ tqS f n e
    · rw [if_pos c, if_neg (show ¬ tqS f n e < n by omega)]
    · have hb := (hf (tqS f n e) (by omega) (by omega)).2
      rw [if_neg c, if_pos (show tqS f n e < n by omega), sp_45b (f := f) (n := n) (by exact ht) (by omega) (by omega)]
      simp only [zk_l, zk_r, Option.toList_some, Option.toList_none, List.cons_append, List.nil_append, zrokB, zrokB0, zrokB1, zrokJ0, zrokJ1, and_true, true_and, and_self, if_true, if_false, b2_0, b2_1, b2_not, ite_self]
      rw [sg_39_79, sp_40 (by omega) (by omega)]
      simp only [zk_l, zk_r, Option.toList_some, Option.toList_none, List.cons_append, List.nil_append, zrokB, zrokB0, zrokB1, zrokJ0, zrokJ1, and_true, true_and, and_self, if_true, if_false, b2_0, b2_1, b2_not, ite_self]
      rw [sg_39_82]
  rw [sg_39_0]
  simp (disch := first | assumption | omega) only [h4, zk_l, zk_r, Option.toList_some, Option.toList_none, List.cons_append, List.nil_append, zrokB, zrokB0, zrokB1, zrokJ0, zrokJ1, and_true, true_and, and_self, if_true, if_false, b2_0, b2_1, b2_not, ite_self, Int.add_zero, jI_nat, jI_add, jI_sub, jI_mul, jI_neg, jI_lt, jI_le, jI_eq, jI_lt0, jI_0lt, jI_le0, jI_0le, jI_eq0, jI_in, jI_dv, i_mod, jI_cl, jm_n, jz_n, i_lit, i_c0, i_c1, Int.toNat_of_nonneg, Int.toNat_natCast, jrow_same, jrow_ne, jrow_jrow, sset_eq, sset_ne]
  rw [show e + ((0 : Nat) : Int) = e by omega] at l1
  rw [l1, l2, l3, sg_39_86]
  simp (disch := first | assumption | omega) only [zk_l, zk_r, Option.toList_some, Option.toList_none, List.cons_append, List.nil_append, zrokB, zrokB0, zrokB1, zrokJ0, zrokJ1, and_true, true_and, and_self, if_true, if_false, b2_0, b2_1, b2_not, ite_self, Int.add_zero, jI_nat, jI_add, jI_sub, jI_mul, jI_neg, jI_lt, jI_le, jI_eq, jI_lt0, jI_0lt, jI_le0, jI_0le, jI_eq0, jI_in, jI_dv, i_mod, jI_cl, jm_n, jz_n, i_lit, i_c0, i_c1, Int.toNat_of_nonneg, Int.toNat_natCast, jrow_same, jrow_ne, jrow_jrow, sset_eq, sset_ne]
  by_cases c3 : tqK f n e = 3
  · rw [if_pos c3]
    unfold tqR
    rw [tqE_3 c3]
  · rw [if_neg c3]
    let R : Int → Int := sset (sset (sset (J 3) 3 (tqS f n e)) 4 (tqS f n e)) 2 (tqK f n e)
    have hR4 : R 4 = tqS f n e := by
      show sset (sset (sset (J 3) 3 (tqS f n e)) 4 (tqS f n e)) 2 (tqK f n e) 4 = _
      rw [sset_ne (by decide), sset_eq rfl]
    have hR1 : R 1 = n := by
      show sset (sset (sset (J 3) 3 (tqS f n e)) 4 (tqS f n e)) 2 (tqK f n e) 1 = _
      rw [sset_ne (by decide), sset_ne (by decide), sset_ne (by decide)]
      exact h1
    have hR2 : R 2 = tqK f n e := by
      show sset (sset (sset (J 3) 3 (tqS f n e)) 4 (tqS f n e)) 2 (tqK f n e) 2 = _
      rw [sset_eq rfl]
    have hRs : sset R 4 (tqS f n e + ((0 : Nat) : Int)) = R := by
      funext j
      unfold sset
      split
      · rename_i h; rw [h, hR4]; omega
      · rfl
    have hEE : tqE f n e = tqS f n e + ((zfst (fun k => !decide (tqO (f (tqS f n e + (k : Int))) = tqK f n e)) (n - tqS f n e).toNat : Nat) : Int) := by
      unfold tqE
      rw [if_neg c3]
    have l4 := zloops (f := fun k : Nat => wz W 39 108 [.ref 3] [] (jm (jrow J 3 (sset R 4 (tqS f n e + (k : Int))))) Q) (fun k => !decide (tqO (f (tqS f n e + (k : Int))) = tqK f n e)) (n - tqS f n e).toNat (fun k hk hc => by
      have hc : tqO (f (tqS f n e + (k : Int))) = tqK f n e := by simpa using hc
      have hb := (hf (tqS f n e + k) (by omega) (by omega)).2
      try simp only
      rw [sg_39_108]
      simp (disch := first | assumption | omega) only [hR1, zk_l, zk_r, Option.toList_some, Option.toList_none, List.cons_append, List.nil_append, zrokB, zrokB0, zrokB1, zrokJ0, zrokJ1, and_true, true_and, and_self, if_true, if_false, b2_0, b2_1, b2_not, ite_self, Int.add_zero, jI_nat, jI_add, jI_sub, jI_mul, jI_neg, jI_lt, jI_le, jI_eq, jI_lt0, jI_0lt, jI_le0, jI_0le, jI_eq0, jI_in, jI_dv, i_mod, jI_cl, jm_n, jz_n, i_lit, i_c0, i_c1, Int.toNat_of_nonneg, Int.toNat_natCast, jrow_same, jrow_ne, jrow_jrow, sset_eq, sset_ne]
      rw [if_neg (by omega), sp_45b (f := f) (n := n) (by exact ht) (by omega) (by omega)]
      simp only [zk_l, zk_r, Option.toList_some, Option.toList_none, List.cons_append, List.nil_append, zrokB, zrokB0, zrokB1, zrokJ0, zrokJ1, and_true, true_and, and_self, if_true, if_false, b2_0, b2_1, b2_not, ite_self]
      rw [sg_39_130, sp_40 (by omega) (by omega)]
      simp only [zk_l, zk_r, Option.toList_some, Option.toList_none, List.cons_append, List.nil_append, zrokB, zrokB0, zrokB1, zrokJ0, zrokJ1, and_true, true_and, and_self, if_true, if_false, b2_0, b2_1, b2_not, ite_self]
      rw [sg_39_133]
      simp (disch := first | assumption | omega) only [hR2, zk_l, zk_r, Option.toList_some, Option.toList_none, List.cons_append, List.nil_append, zrokB, zrokB0, zrokB1, zrokJ0, zrokJ1, and_true, true_and, and_self, if_true, if_false, b2_0, b2_1, b2_not, ite_self, Int.add_zero, jI_nat, jI_add, jI_sub, jI_mul, jI_neg, jI_lt, jI_le, jI_eq, jI_lt0, jI_0lt, jI_le0, jI_0le, jI_eq0, jI_in, jI_dv, i_mod, jI_cl, jm_n, jz_n, i_lit, i_c0, i_c1, Int.toNat_of_nonneg, Int.toNat_natCast, jrow_same, jrow_ne, jrow_jrow, sset_eq, sset_ne]
      rw [if_pos hc]
      simp (disch := first | assumption | omega) only [sset_ss, zk_l, zk_r, Option.toList_some, Option.toList_none, List.cons_append, List.nil_append, zrokB, zrokB0, zrokB1, zrokJ0, zrokJ1, and_true, true_and, and_self, if_true, if_false, b2_0, b2_1, b2_not, ite_self, Int.add_zero, jI_nat, jI_add, jI_sub, jI_mul, jI_neg, jI_lt, jI_le, jI_eq, jI_lt0, jI_0lt, jI_le0, jI_0le, jI_eq0, jI_in, jI_dv, i_mod, jI_cl, jm_n, jz_n, i_lit, i_c0, i_c1, Int.toNat_of_nonneg, Int.toNat_natCast, jrow_same, jrow_ne, jrow_jrow, sset_eq, sset_ne]
      rw [show tqS f n e + (k : Int) + 1 = tqS f n e + ((k + 1 : Nat) : Int) by omega])
    try simp only at l4
    rw [hRs, ← hEE] at l4
    refine Eq.trans l4 ?_
    show _ = Q oV (jm (jrow J 3 (sset R 4 (tqE f n e))))
    rw [sg_39_108]
    simp (disch := first | assumption | omega) only [hR1, zk_l, zk_r, Option.toList_some, Option.toList_none, List.cons_append, List.nil_append, zrokB, zrokB0, zrokB1, zrokJ0, zrokJ1, and_true, true_and, and_self, if_true, if_false, b2_0, b2_1, b2_not, ite_self, Int.add_zero, jI_nat, jI_add, jI_sub, jI_mul, jI_neg, jI_lt, jI_le, jI_eq, jI_lt0, jI_0lt, jI_le0, jI_0le, jI_eq0, jI_in, jI_dv, i_mod, jI_cl, jm_n, jz_n, i_lit, i_c0, i_c1, Int.toNat_of_nonneg, Int.toNat_natCast, jrow_same, jrow_ne, jrow_jrow, sset_eq, sset_ne]
    by_cases c : n ≤ tqE f n e
    · rw [if_pos c, sg_39_153]
    · have hb := (hf (tqE f n e) (by omega) (by omega)).2
      rw [if_neg c, sp_45b (f := f) (n := n) (by exact ht) (by omega) (by omega)]
      simp only [zk_l, zk_r, Option.toList_some, Option.toList_none, List.cons_append, List.nil_append, zrokB, zrokB0, zrokB1, zrokJ0, zrokJ1, and_true, true_and, and_self, if_true, if_false, b2_0, b2_1, b2_not, ite_self]
      have hOb := tqO_b (f (tqE f n e))
      rw [sg_39_130, sp_40 (by omega) (by omega)]
      simp only [zk_l, zk_r, Option.toList_some, Option.toList_none, List.cons_append, List.nil_append, zrokB, zrokB0, zrokB1, zrokJ0, zrokJ1, and_true, true_and, and_self, if_true, if_false, b2_0, b2_1, b2_not, ite_self]
      rw [sg_39_133]
      simp (disch := first | assumption | omega) only [hR2, zk_l, zk_r, Option.toList_some, Option.toList_none, List.cons_append, List.nil_append, zrokB, zrokB0, zrokB1, zrokJ0, zrokJ1, and_true, true_and, and_self, if_true, if_false, b2_0, b2_1, b2_not, ite_self, Int.add_zero, jI_nat, jI_add, jI_sub, jI_mul, jI_neg, jI_lt, jI_le, jI_eq, jI_lt0, jI_0lt, jI_le0, jI_0le, jI_eq0, jI_in, jI_dv, i_mod, jI_cl, jm_n, jz_n, i_lit, i_c0, i_c1, Int.toNat_of_nonneg, Int.toNat_natCast, jrow_same, jrow_ne, jrow_jrow, sset_eq, sset_ne]
      have hy := zfst_yes (fun k : Nat => !decide (tqO (f (tqS f n e + (k : Int))) = tqK f n e)) (n - tqS f n e).toNat (by omega)
      have hy2 : ¬ tqO (f (tqE f n e)) = tqK f n e := by
        rw [hEE]
        simpa using hy
      rw [if_neg hy2, sg_39_153]
/-- next, told by what it does -/
theorem sp_39e (ht : txt (J 2) f n) (h1 : J 3 1 = n) (h4 : J 3 4 = e) (e0 : 0 ≤ e) (e1 : e ≤ n) : ∃ J', (∀ Q : zO → zI → Prop, wz W 39 0 [.ref 3] [] (jm J) Q = Q oV (jm J')) ∧ PC f n J' e ∧ J' 3 5 = J 3 5 ∧ ∀ r, r ≠ 3 → J' r = J r :=
  ⟨_, fun Q => sp_39 ht h1 h4 e0 e1, PC_R h1, by rw [jrow_same]; unfold tqR; simp (disch := first | assumption | omega) only [sset_ne], fun r hr => jrow_ne hr⟩
/-- isByte -/
theorem sp_41 {c : Int} (ht : txt (J 2) f n) (hp : PC f n J e) (e0 : 0 ≤ e) (e1 : e ≤ n) (c0 : 0 ≤ c) (c1 : c ≤ 255) : wz W 41 0 [.ref 3, .int (jI c)] [] (jm J) Q = Q (oB (tqG f n e c)) (jm J) := by
  obtain ⟨p1, p2, p3, p4⟩ := hp
  have hS := tqS_b (f := f) e1
  have hK := tqK_b f n e
  have n9 := ht.2.1
  rw [sg_41_0]
  simp (disch := first | assumption | omega) only [p2, p3, zk_l, zk_r, Option.toList_some, Option.toList_none, List.cons_append, List.nil_append, zrokB, zrokB0, zrokB1, zrokJ0, zrokJ1, and_true, true_and, and_self, if_true, if_false, b2_0, b2_1, b2_not, ite_self, Int.add_zero, jI_nat, jI_add, jI_sub, jI_mul, jI_neg, jI_lt, jI_le, jI_eq, jI_lt0, jI_0lt, jI_le0, jI_0le, jI_eq0, jI_in, jI_dv, i_mod, jI_cl, jm_n, jz_n, i_lit, i_c0, i_c1, Int.toNat_of_nonneg, Int.toNat_natCast, jrow_same, jrow_ne, jrow_jrow, sset_eq, sset_ne]
  unfold tqG
  by_cases h : tqK f n e = 3
  · have hlt := tqK_lt (f := f) (n := n) (e := e) (by omega)
    have hb := (ht.2.2 (tqS f n e) (by omega) (by omega)).2
    rw [if_pos h, sp_45b ht (by omega) (by omega)]
    simp only [zk_l, zk_r, Option.toList_some, Option.toList_none, List.cons_append, List.nil_append, zrokB, zrokB0, zrokB1, zrokJ0, zrokJ1, and_true, true_and, and_self, if_true, if_false, b2_0, b2_1, b2_not, ite_self]
    rw [sg_41_19, ifE (by omega) (by omega) (by omega) (by omega), decide_eq_true h, Bool.true_and]
    by_cases q : f (tqS f n e) = c
    · rw [if_pos q, sg_41_28, decide_eq_true q]
      simp only [zk_l, zk_r, Option.toList_some, Option.toList_none, List.cons_append, List.nil_append, zrokB, zrokB0, zrokB1, zrokJ0, zrokJ1, and_true, true_and, and_self, if_true, if_false, b2_0, b2_1, b2_not, ite_self]
      rfl
    · rw [if_neg q, sg_41_27, sg_41_28, decide_eq_false q]
      simp only [zk_l, zk_r, Option.toList_some, Option.toList_none, List.cons_append, List.nil_append, zrokB, zrokB0, zrokB1, zrokJ0, zrokJ1, and_true, true_and, and_self, if_true, if_false, b2_0, b2_1, b2_not, ite_self]
      rfl
  · rw [if_neg h, sg_41_27, sg_41_28, decide_eq_false h, Bool.false_and]
    simp only [zk_l, zk_r, Option.toList_some, Option.toList_none, List.cons_append, List.nil_append, zrokB, zrokB0, zrokB1, zrokJ0, zrokJ1, and_true, true_and, and_self, if_true, if_false, b2_0, b2_1, b2_not, ite_self]
    rfl
/-- is -/
theorem sp_42 {i : Nat} (hi : i < 7) (ht : txt (J 2) f n) (hp : PC f n J e) (e0 : 0 ≤ e) (e1 : e ≤ n) : wz W 42 0 [.ref 3, .ref (2000000 + i), .float 0] [] (jm J) Q = Q (oB (tqW f n e i)) (jm J) := by
  obtain ⟨p1, p2, p3, p4⟩ := hp
  have hS := tqS_b (f := f) e1
  have hE := tqE_b (f := f) e1
  have hK := tqK_b f n e
  have n9 := ht.2.1
  have hlen : (wdL i).length ≤ 8 := (gd_wd i hi).1
  rw [sg_42_0 (hp1 := hi)]
  simp (disch := first | assumption | omega) only [p2, p3, p4, zk_l, zk_r, Option.toList_some, Option.toList_none, List.cons_append, List.nil_append, zrokB, zrokB0, zrokB1, zrokJ0, zrokJ1, and_true, true_and, and_self, if_true, if_false, b2_0, b2_1, b2_not, ite_self, Int.add_zero, jI_nat, jI_add, jI_sub, jI_mul, jI_neg, jI_lt, jI_le, jI_eq, jI_lt0, jI_0lt, jI_le0, jI_0le, jI_eq0, jI_in, jI_dv, i_mod, jI_cl, jm_n, jz_n, i_lit, i_c0, i_c1, Int.toNat_of_nonneg, Int.toNat_natCast, jrow_same, jrow_ne, jrow_jrow, sset_eq, sset_ne]
  unfold tqW
  by_cases h : tqK f n e = 1
  · rw [if_pos h, sp_332 hi, decide_eq_true h, Bool.true_and]
    simp only [zk_l, zk_r, Option.toList_some, Option.toList_none, List.cons_append, List.nil_append, zrokB, zrokB0, zrokB1, zrokJ0, zrokJ1, and_true, true_and, and_self, if_true, if_false, b2_0, b2_1, b2_not, ite_self]
    rw [sg_42_21 (hp1 := hi), ifE (by omega) (by omega) (by omega) (by omega)]
    by_cases q : tqE f n e - tqS f n e = ((wdL i).length : Int)
    · rw [if_pos q, decide_eq_true q, Bool.true_and]
      have key := zloop_all (f := fun (j : Nat) (_ : Unit) => wz W 42 28 [.ref 3, .ref (2000000 + i), .int (jI j)] [] (jm J) Q) (A := Q (oI 0) (jm J)) (B := Q (oI 1) (jm J)) (fun j => decide (jI (f (tqS f n e + (j : Int))) = (wdL i).getD j 0)) (wdL i).length (fun _ v => v) () (fun j v hj hc => by
          have hc : jI (f (tqS f n e + (j : Int))) = (wdL i).getD j 0 := by simpa using hc
          try simp only
          rw [sg_42_28 (hp1 := hi), sp_332 hi]
          simp only [zk_l, zk_r, Option.toList_some, Option.toList_none, List.cons_append, List.nil_append, zrokB, zrokB0, zrokB1, zrokJ0, zrokJ1, and_true, true_and, and_self, if_true, if_false, b2_0, b2_1, b2_not, ite_self]
          rw [sg_42_33 (hp1 := hi), if_neg (by rw [jI_le (by omega) (by omega) (by omega) (by omega)]; omega)]
          simp (disch := first | assumption | omega) only [p3, zk_l, zk_r, Option.toList_some, Option.toList_none, List.cons_append, List.nil_append, zrokB, zrokB0, zrokB1, zrokJ0, zrokJ1, and_true, true_and, and_self, if_true, if_false, b2_0, b2_1, b2_not, ite_self, Int.add_zero, jI_nat, jI_add, jI_sub, jI_mul, jI_neg, jI_lt, jI_le, jI_eq, jI_lt0, jI_0lt, jI_le0, jI_0le, jI_eq0, jI_in, jI_dv, i_mod, jI_cl, jm_n, jz_n, i_lit, i_c0, i_c1, Int.toNat_of_nonneg, Int.toNat_natCast, jrow_same, jrow_ne, jrow_jrow, sset_eq, sset_ne]
          rw [sp_45b (f := f) (n := n) ht (by omega) (by omega)]
          simp only [zk_l, zk_r, Option.toList_some, Option.toList_none, List.cons_append, List.nil_append, zrokB, zrokB0, zrokB1, zrokJ0, zrokJ1, and_true, true_and, and_self, if_true, if_false, b2_0, b2_1, b2_not, ite_self]
          rw [sg_42_49 (hp1 := hi), sp_333 hi hj]
          simp only [zk_l, zk_r, Option.toList_some, Option.toList_none, List.cons_append, List.nil_append, zrokB, zrokB0, zrokB1, zrokJ0, zrokJ1, and_true, true_and, and_self, if_true, if_false, b2_0, b2_1, b2_not, ite_self]
          rw [sg_42_54 (hp1 := hi), if_pos hc, jI_add]
          rfl) (fun j v hj hc => by
          have hc : ¬ jI (f (tqS f n e + (j : Int))) = (wdL i).getD j 0 := by simpa using hc
          try simp only
          rw [sg_42_28 (hp1 := hi), sp_332 hi]
          simp only [zk_l, zk_r, Option.toList_some, Option.toList_none, List.cons_append, List.nil_append, zrokB, zrokB0, zrokB1, zrokJ0, zrokJ1, and_true, true_and, and_self, if_true, if_false, b2_0, b2_1, b2_not, ite_self]
          rw [sg_42_33 (hp1 := hi), if_neg (by rw [jI_le (by omega) (by omega) (by omega) (by omega)]; omega)]
          simp (disch := first | assumption | omega) only [p3, zk_l, zk_r, Option.toList_some, Option.toList_none, List.cons_append, List.nil_append, zrokB, zrokB0, zrokB1, zrokJ0, zrokJ1, and_true, true_and, and_self, if_true, if_false, b2_0, b2_1, b2_not, ite_self, Int.add_zero, jI_nat, jI_add, jI_sub, jI_mul, jI_neg, jI_lt, jI_le, jI_eq, jI_lt0, jI_0lt, jI_le0, jI_0le, jI_eq0, jI_in, jI_dv, i_mod, jI_cl, jm_n, jz_n, i_lit, i_c0, i_c1, Int.toNat_of_nonneg, Int.toNat_natCast, jrow_same, jrow_ne, jrow_jrow, sset_eq, sset_ne]
          rw [sp_45b (f := f) (n := n) ht (by omega) (by omega)]
          simp only [zk_l, zk_r, Option.toList_some, Option.toList_none, List.cons_append, List.nil_append, zrokB, zrokB0, zrokB1, zrokJ0, zrokJ1, and_true, true_and, and_self, if_true, if_false, b2_0, b2_1, b2_not, ite_self]
          rw [sg_42_49 (hp1 := hi), sp_333 hi hj]
          simp only [zk_l, zk_r, Option.toList_some, Option.toList_none, List.cons_append, List.nil_append, zrokB, zrokB0, zrokB1, zrokJ0, zrokJ1, and_true, true_and, and_self, if_true, if_false, b2_0, b2_1, b2_not, ite_self]
          rw [sg_42_54 (hp1 := hi), if_neg hc]) (fun v => by
          try simp only
          rw [sg_42_28 (hp1 := hi), sp_332 hi]
          simp only [zk_l, zk_r, Option.toList_some, Option.toList_none, List.cons_append, List.nil_append, zrokB, zrokB0, zrokB1, zrokJ0, zrokJ1, and_true, true_and, and_self, if_true, if_false, b2_0, b2_1, b2_not, ite_self]
          rw [sg_42_33 (hp1 := hi), if_pos (Int32.le_refl _)])
      refine Eq.trans key ?_
      cases zAllB (fun j => decide (jI (f (tqS f n e + (j : Int))) = (wdL i).getD j 0)) (wdL i).length <;> rfl
    · rw [if_neg q, sg_42_24 (hp1 := hi), decide_eq_false q, Bool.false_and]
      rfl
  · rw [if_neg h, sg_42_24 (hp1 := hi), decide_eq_false h, Bool.false_and]
    rfl
/-- wordCode -/
theorem sp_43 (ht : txt (J 2) f n) (hp : PC f n J e) (e0 : 0 ≤ e) (e1 : e ≤ n) : wz W 43 0 [.ref 3, .float 0, .float 0] [] (jm J) Q = Q (oI (tqC f n e)) (jm J) := by
  obtain ⟨p1, p2, p3, p4⟩ := hp
  have hS := tqS_b (f := f) e1
  have hE := tqE_b (f := f) e1
  have hK := tqK_b f n e
  have n9 := ht.2.1
  rw [sg_43_0]
  simp (disch := first | assumption | omega) only [p2, p3, p4, zk_l, zk_r, Option.toList_some, Option.toList_none, List.cons_append, List.nil_append, zrokB, zrokB0, zrokB1, zrokJ0, zrokJ1, and_true, true_and, and_self, if_true, if_false, b2_0, b2_1, b2_not, ite_self, Int.add_zero, jI_nat, jI_add, jI_sub, jI_mul, jI_neg, jI_lt, jI_le, jI_eq, jI_lt0, jI_0lt, jI_le0, jI_0le, jI_eq0, jI_in, jI_dv, i_mod, jI_cl, jm_n, jz_n, i_lit, i_c0, i_c1, Int.toNat_of_nonneg, Int.toNat_natCast, jrow_same, jrow_ne, jrow_jrow, sset_eq, sset_ne]
  unfold tqC
  by_cases h : tqK f n e = 1
  · rw [if_pos h]
    by_cases q : tqE f n e - tqS f n e ≤ 6
    · rw [if_pos q, if_pos ⟨h, q⟩]
      have hl := tq_let h
      have key := zloop (f := fun k : Nat => wz W 43 31 [.ref 3, .int (jI (cdL f (tqS f n e) k)), .int (jI (tqS f n e + (k : Int)))] [] (jm J) Q) (tqE f n e - tqS f n e).toNat (fun k hk => by
        obtain ⟨c1, c2, -⟩ := cdL_p (f := f) (s := tqS f n e) k (by omega) (fun j hj => hl j (by omega))
        have c3 := (cdL_b (f := f) (s := tqS f n e) k (fun j hj => hl j (by omega))).2
        have c4 : (32 : Int) ^ k ≤ 33554432 := (by decide : ∀ k : Nat, k < 6 → (32 : Int) ^ k ≤ 33554432) k (by omega)
        obtain ⟨d1, d2⟩ := hl k hk
        try simp only
        rw [sg_43_31]
        simp (disch := first | assumption | omega) only [p4, zk_l, zk_r, Option.toList_some, Option.toList_none, List.cons_append, List.nil_append, zrokB, zrokB0, zrokB1, zrokJ0, zrokJ1, and_true, true_and, and_self, if_true, if_false, b2_0, b2_1, b2_not, ite_self, Int.add_zero, jI_nat, jI_add, jI_sub, jI_mul, jI_neg, jI_lt, jI_le, jI_eq, jI_lt0, jI_0lt, jI_le0, jI_0le, jI_eq0, jI_in, jI_dv, i_mod, jI_cl, jm_n, jz_n, i_lit, i_c0, i_c1, Int.toNat_of_nonneg, Int.toNat_natCast, jrow_same, jrow_ne, jrow_jrow, sset_eq, sset_ne]
        rw [if_neg (by omega), sp_45b (f := f) (n := n) ht (by omega) (by omega)]
        simp only [zk_l, zk_r, Option.toList_some, Option.toList_none, List.cons_append, List.nil_append, zrokB, zrokB0, zrokB1, zrokJ0, zrokJ1, and_true, true_and, and_self, if_true, if_false, b2_0, b2_1, b2_not, ite_self]
        rw [sg_43_50, jI_sub, jI_add, jor5 c1 (by omega) (by omega) (by omega), jI_add]
        rw [show 32 * cdL f (tqS f n e) k + (f (tqS f n e + (k : Int)) - 97 + 1) = cdL f (tqS f n e) (k + 1) by
          show _ = 32 * cdL f (tqS f n e) k + (f (tqS f n e + (k : Int)) - 96)
          omega, show tqS f n e + (k : Int) + 1 = tqS f n e + ((k + 1 : Nat) : Int) by omega])
      try simp only at key
      rw [show tqS f n e + ((0 : Nat) : Int) = tqS f n e by omega] at key
      refine Eq.trans key ?_
      rw [sg_43_31]
      simp (disch := first | assumption | omega) only [p4, zk_l, zk_r, Option.toList_some, Option.toList_none, List.cons_append, List.nil_append, zrokB, zrokB0, zrokB1, zrokJ0, zrokJ1, and_true, true_and, and_self, if_true, if_false, b2_0, b2_1, b2_not, ite_self, Int.add_zero, jI_nat, jI_add, jI_sub, jI_mul, jI_neg, jI_lt, jI_le, jI_eq, jI_lt0, jI_0lt, jI_le0, jI_0le, jI_eq0, jI_in, jI_dv, i_mod, jI_cl, jm_n, jz_n, i_lit, i_c0, i_c1, Int.toNat_of_nonneg, Int.toNat_natCast, jrow_same, jrow_ne, jrow_jrow, sset_eq, sset_ne]
      rw [if_pos (by omega)]
    · rw [if_neg q, if_neg (fun h9 => q h9.2), sg_43_22]
  · rw [if_neg h, if_neg (fun h9 => h h9.1), sg_43_22]
/-! numbers -/
def pSg (f : Int → Int) (n sg lo hi e : Int) : Int ⊕ (Int × Int) := if tqK f n e = 2 ∧ tqE f n e - tqS f n e ≤ 4 ∧ lo ≤ sg * tqV f n e ∧ sg * tqV f n e ≤ hi then .inr (sg * tqV f n e, tqE f n e) else .inl (tqS f n e)
def pNu (f : Int → Int) (n lo hi e : Int) : Int ⊕ (Int × Int) := pSg f n 1 lo hi e
def pTe (f : Int → Int) (n lo hi e : Int) : Int ⊕ (Int × Int) := if tqG f n e 45 = true then pSg f n (-1) lo hi (tqE f n e) else pSg f n 1 lo hi e
/-- what a part of a statement ends in, in the class -/
def cRs (f : Int → Int) (n : Int) (J' : zJ) (o : zO) (r : Int ⊕ (Int × Int)) : Prop := match r with
  | .inl p => o = oB false ∧ J' 3 3 = p ∧ J' 3 1 = n
  | .inr (v, e') => o = oB true ∧ PC f n J' e' ∧ J' 3 5 = v
theorem pSg_e {f : Int → Int} {n sg lo hi e v e' : Int} (e1 : e ≤ n) (h : pSg f n sg lo hi e = .inr (v, e')) : e ≤ e' ∧ e' ≤ n ∧ lo ≤ v ∧ v ≤ hi := by
  unfold pSg at h
  split at h
  · rename_i q
    cases h
    have hS := tqS_b (f := f) e1
    have hE := tqE_b (f := f) e1
    omega
  · cases h
theorem pSg_p {f : Int → Int} {n sg lo hi e p : Int} (e0 : 0 ≤ e) (e1 : e ≤ n) (h : pSg f n sg lo hi e = .inl p) : 0 ≤ p ∧ p ≤ n := by
  unfold pSg at h
  split at h
  · cases h
  · cases h
    have hS := tqS_b (f := f) e1
    omega
theorem pTe_e {f : Int → Int} {n lo hi e v e' : Int} (e1 : e ≤ n) (h : pTe f n lo hi e = .inr (v, e')) : e ≤ e' ∧ e' ≤ n ∧ lo ≤ v ∧ v ≤ hi := by
  have hS := tqS_b (f := f) e1
  have hE := tqE_b (f := f) e1
  unfold pTe at h
  split at h
  · have := pSg_e (by omega) h
    omega
  · exact pSg_e e1 h
theorem pTe_p {f : Int → Int} {n lo hi e p : Int} (e0 : 0 ≤ e) (e1 : e ≤ n) (h : pTe f n lo hi e = .inl p) : 0 ≤ p ∧ p ≤ n := by
  have hS := tqS_b (f := f) e1
  have hE := tqE_b (f := f) e1
  unfold pTe at h
  split at h
  · exact pSg_p (by omega) (by omega) h
  · exact pSg_p e0 e1 h
theorem PC_5 {J : zJ} {v : Int} (h : PC f n J e) : PC f n (jrow J 3 (sset (J 3) 5 v)) e := by
  obtain ⟨p1, p2, p3, p4⟩ := h
  refine ⟨?_, ?_, ?_, ?_⟩ <;> rw [jrow_same, sset_ne (by decide)] <;> assumption
theorem sp_38i {lo hi sg : Int} {x3 : Int32} (ht : txt (J 2) f n) (hp : PC f n J e) (e0 : 0 ≤ e) (e1 : e ≤ n) (l0 : -100000 ≤ lo) (l1 : lo ≤ 100000) (h0 : -100000 ≤ hi) (h1 : hi ≤ 100000) (hs : sg = 1 ∨ sg = -1) :
    ∃ o J', (∀ Q : zO → zI → Prop, wz W 38 23 [.ref 3, .int (jI lo), .int (jI hi), .int x3, .int (jI sg), .float 0] [] (jm J) Q = Q o (jm J')) ∧ (∀ r, r ≠ 3 → J' r = J r) ∧ cRs f n J' o (pSg f n sg lo hi e) := by
  have hp' := hp
  obtain ⟨p1, p2, p3, p4⟩ := hp'
  have hS := tqS_b (f := f) e1
  have hE := tqE_b (f := f) e1
  have hK := tqK_b f n e
  have n9 := ht.2.1
  by_cases h : tqK f n e = 2 ∧ tqE f n e - tqS f n e ≤ 4
  · have hd := tq_dig h.1
    have hV := tqV_b h.1 h.2
    -- the loop, up to its end
    have hrun : ∀ Q : zO → zI → Prop, wz W 38 23 [.ref 3, .int (jI lo), .int (jI hi), .int x3, .int (jI sg), .float 0] [] (jm J) Q = wz W 38 57 [.ref 3, .int (jI lo), .int (jI hi), .int x3, .int (jI sg), .int (jI (tqE f n e))] [] (jm (jrow J 3 (sset (J 3) 5 (sg * tqV f n e)))) Q := by
      intro Q
      rw [sg_38_23]
      simp (disch := first | assumption | omega) only [p2, p3, p4, zk_l, zk_r, Option.toList_some, Option.toList_none, List.cons_append, List.nil_append, zrokB, zrokB0, zrokB1, zrokJ0, zrokJ1, and_true, true_and, and_self, if_true, if_false, b2_0, b2_1, b2_not, ite_self, Int.add_zero, jI_nat, jI_add, jI_sub, jI_mul, jI_neg, jI_lt, jI_le, jI_eq, jI_lt0, jI_0lt, jI_le0, jI_0le, jI_eq0, jI_in, jI_dv, i_mod, jI_cl, jm_n, jz_n, i_lit, i_c0, i_c1, Int.toNat_of_nonneg, Int.toNat_natCast, jrow_same, jrow_ne, jrow_jrow, sset_eq, sset_ne]
      rw [if_pos h.1, if_pos h.2]
      have key := zloop (f := fun k : Nat => wz W 38 57 [.ref 3, .int (jI lo), .int (jI hi), .int x3, .int (jI sg), .int (jI (tqS f n e + (k : Int)))] [] (jm (jrow J 3 (sset (J 3) 5 (sg * vlL f (tqS f n e) k)))) Q) (tqE f n e - tqS f n e).toNat (fun k hk => by
        obtain ⟨c1, c2⟩ := vlL_p (f := f) (s := tqS f n e) k (by omega) (fun j hj => hd j (by omega))
        obtain ⟨d1, d2⟩ := hd k hk
        try simp only
        rw [sg_38_57]
        simp (disch := first | assumption | omega) only [p4, zk_l, zk_r, Option.toList_some, Option.toList_none, List.cons_append, List.nil_append, zrokB, zrokB0, zrokB1, zrokJ0, zrokJ1, and_true, true_and, and_self, if_true, if_false, b2_0, b2_1, b2_not, ite_self, Int.add_zero, jI_nat, jI_add, jI_sub, jI_mul, jI_neg, jI_lt, jI_le, jI_eq, jI_lt0, jI_0lt, jI_le0, jI_0le, jI_eq0, jI_in, jI_dv, i_mod, jI_cl, jm_n, jz_n, i_lit, i_c0, i_c1, Int.toNat_of_nonneg, Int.toNat_natCast, jrow_same, jrow_ne, jrow_jrow, sset_eq, sset_ne]
        rw [if_neg (by omega), sp_45b (f := f) (n := n) (by exact ht) (by omega) (by omega)]
        simp only [zk_l, zk_r, Option.toList_some, Option.toList_none, List.cons_append, List.nil_append, zrokB, zrokB0, zrokB1, zrokJ0, zrokJ1, and_true, true_and, and_self, if_true, if_false, b2_0, b2_1, b2_not, ite_self]
        rw [sg_38_85]
        simp (disch := first | assumption | omega) only [sset_ss, zk_l, zk_r, Option.toList_some, Option.toList_none, List.cons_append, List.nil_append, zrokB, zrokB0, zrokB1, zrokJ0, zrokJ1, and_true, true_and, and_self, if_true, if_false, b2_0, b2_1, b2_not, ite_self, Int.add_zero, jI_nat, jI_add, jI_sub, jI_mul, jI_neg, jI_lt, jI_le, jI_eq, jI_lt0, jI_0lt, jI_le0, jI_0le, jI_eq0, jI_in, jI_dv, i_mod, jI_cl, jm_n, jz_n, i_lit, i_c0, i_c1, Int.toNat_of_nonneg, Int.toNat_natCast, jrow_same, jrow_ne, jrow_jrow, sset_eq, sset_ne]
        rw [show 10 * (sg * vlL f (tqS f n e) k) + sg * (f (tqS f n e + (k : Int)) - 48) = sg * vlL f (tqS f n e) (k + 1) by
          show _ = sg * (10 * vlL f (tqS f n e) k + (f (tqS f n e + (k : Int)) - 48))
          rcases hs with hs | hs <;> rw [hs] <;> omega, show tqS f n e + (k : Int) + 1 = tqS f n e + ((k + 1 : Nat) : Int) by omega])
      try simp only at key
      have z : sg * vlL f (tqS f n e) 0 = 0 := by
        show sg * 0 = 0
        omega
      rw [z, show tqS f n e + ((0 : Nat) : Int) = tqS f n e by omega, show tqS f n e + ((tqE f n e - tqS f n e).toNat : Int) = tqE f n e by omega] at key
      exact key
    have hb : -10000 ≤ sg * tqV f n e ∧ sg * tqV f n e ≤ 10000 := by
      rcases hs with hs | hs <;> rw [hs] <;> omega
    generalize hv : sg * tqV f n e = v at *
    let J1 : zJ := jrow J 3 (sset (J 3) 5 v)
    have q4 : J1 3 4 = tqE f n e := by
      show jrow J 3 (sset (J 3) 5 v) 3 4 = _
      rw [jrow_same, sset_ne (by decide)]
      exact p4
    have q5 : J1 3 5 = v := by
      show jrow J 3 (sset (J 3) 5 v) 3 5 = _
      rw [jrow_same, sset_eq rfl]
    have q1 : J1 3 1 = n := (PC_5 hp).1
    by_cases c : lo ≤ v ∧ v ≤ hi
    · obtain ⟨J2, r2, pc2, v2, fr2⟩ := sp_39e (W := W) (J := J1) (f := f) (n := n) (e := tqE f n e) (by exact ht) q1 q4 (by omega) (by omega)
      refine ⟨oI 1, J2, fun Q => ?_, fun r hr => by rw [fr2 r hr]; exact jrow_ne hr, ?_⟩
      · rw [hrun, sg_38_57]
        show (if jI (J1 3 4) ≤ jI (tqE f n e) then (if jI (J1 3 5) < jI lo then _ else (if jI (J1 3 5) ≤ jI hi then wz W 39 0 [.ref 3] [] (jm J1) _ else _)) else _) = _
        rw [q4, q5, if_pos (Int32.le_refl _), if_neg (by rw [jI_lt (by omega) (by omega) (by omega) (by omega)]; omega), if_pos (by rw [jI_le (by omega) (by omega) (by omega) (by omega)]; omega), r2]
        simp only [zk_l, zk_r, Option.toList_some, Option.toList_none, List.cons_append, List.nil_append, zrokB, zrokB0, zrokB1, zrokJ0, zrokJ1, and_true, true_and, and_self, if_true, if_false, b2_0, b2_1, b2_not, ite_self]
        rw [sg_38_121]
      · unfold pSg
        rw [if_pos ⟨h.1, h.2, by rw [hv]; exact c.1, by rw [hv]; exact c.2⟩, hv]
        exact ⟨rfl, pc2, by rw [v2, q5]⟩
    · refine ⟨oI 0, J1, fun Q => ?_, fun r hr => jrow_ne hr, ?_⟩
      · rw [hrun, sg_38_57]
        show (if jI (J1 3 4) ≤ jI (tqE f n e) then (if jI (J1 3 5) < jI lo then _ else (if jI (J1 3 5) ≤ jI hi then _ else _)) else _) = _
        rw [q4, q5, if_pos (Int32.le_refl _)]
        by_cases c2 : v < lo
        · rw [if_pos (by rw [jI_lt (by omega) (by omega) (by omega) (by omega)]; omega), sg_38_115]
        · rw [if_neg (by rw [jI_lt (by omega) (by omega) (by omega) (by omega)]; omega), if_neg (by rw [jI_le (by omega) (by omega) (by omega) (by omega)]; omega), sg_38_115]
      · unfold pSg
        rw [if_neg (fun h9 => c ⟨by rw [← hv]; exact h9.2.2.1, by rw [← hv]; exact h9.2.2.2⟩)]
        exact ⟨rfl, (PC_5 hp).2.2.1, (PC_5 hp).1⟩
  · refine ⟨oI 0, J, fun Q => ?_, fun r hr => rfl, ?_⟩
    · rw [sg_38_23]
      simp (disch := first | assumption | omega) only [p2, p3, p4, zk_l, zk_r, Option.toList_some, Option.toList_none, List.cons_append, List.nil_append, zrokB, zrokB0, zrokB1, zrokJ0, zrokJ1, and_true, true_and, and_self, if_true, if_false, b2_0, b2_1, b2_not, ite_self, Int.add_zero, jI_nat, jI_add, jI_sub, jI_mul, jI_neg, jI_lt, jI_le, jI_eq, jI_lt0, jI_0lt, jI_le0, jI_0le, jI_eq0, jI_in, jI_dv, i_mod, jI_cl, jm_n, jz_n, i_lit, i_c0, i_c1, Int.toNat_of_nonneg, Int.toNat_natCast, jrow_same, jrow_ne, jrow_jrow, sset_eq, sset_ne]
      by_cases h2 : tqK f n e = 2
      · rw [if_pos h2, if_neg (fun h9 => h ⟨h2, h9⟩), sg_38_44]
      · rw [if_neg h2, sg_38_44]
    · unfold pSg
      rw [if_neg (fun h9 => h ⟨h9.1, h9.2.1⟩)]
      exact ⟨rfl, p3, p1⟩
/-- number, without a sign; with one -/
theorem sp_38u {lo hi : Int} (ht : txt (J 2) f n) (hp : PC f n J e) (e0 : 0 ≤ e) (e1 : e ≤ n) (l0 : -100000 ≤ lo) (l1 : lo ≤ 100000) (h0 : -100000 ≤ hi) (h1 : hi ≤ 100000) :
    ∃ o J', (∀ Q : zO → zI → Prop, wz W 38 0 [.ref 3, .int (jI lo), .int (jI hi), .int (jI 0), .float 0, .float 0] [] (jm J) Q = Q o (jm J')) ∧ (∀ r, r ≠ 3 → J' r = J r) ∧ cRs f n J' o (pNu f n lo hi e) := by
  obtain ⟨o, J', hr, hf, hc⟩ := sp_38i (W := W) (sg := 1) (x3 := jI 0) ht hp e0 e1 l0 l1 h0 h1 (Or.inl rfl)
  refine ⟨o, J', fun Q => ?_, hf, hc⟩
  rw [sg_38_0, if_pos (by decide)]
  exact hr Q
theorem sp_38s {lo hi : Int} (ht : txt (J 2) f n) (hp : PC f n J e) (e0 : 0 ≤ e) (e1 : e ≤ n) (l0 : -100000 ≤ lo) (l1 : lo ≤ 100000) (h0 : -100000 ≤ hi) (h1 : hi ≤ 100000) :
    ∃ o J', (∀ Q : zO → zI → Prop, wz W 38 0 [.ref 3, .int (jI lo), .int (jI hi), .int (jI 1), .float 0, .float 0] [] (jm J) Q = Q o (jm J')) ∧ (∀ r, r ≠ 3 → J' r = J r) ∧ cRs f n J' o (pTe f n lo hi e) := by
  have hS := tqS_b (f := f) e1
  have hE := tqE_b (f := f) e1
  unfold pTe
  cases hg : tqG f n e 45 with
  | false =>
    obtain ⟨o, J', hr, hf, hc⟩ := sp_38i (W := W) (sg := 1) (x3 := jI 1) ht hp e0 e1 l0 l1 h0 h1 (Or.inl rfl)
    refine ⟨o, J', fun Q => ?_, hf, hc⟩
    rw [sg_38_0, if_neg (by decide), sp_41 ht hp e0 e1 (by decide) (by decide), hg]
    simp only [zk_l, zk_r, Option.toList_some, Option.toList_none, List.cons_append, List.nil_append, zrokB, zrokB0, zrokB1, zrokJ0, zrokJ1, and_true, true_and, and_self, if_true, if_false, b2_0, b2_1, b2_not, ite_self]
    rw [sg_38_13, if_pos (by decide)]
    exact hr Q
  | true =>
    obtain ⟨J1, r1, pc1, v1, f1⟩ := sp_39e (W := W) (J := J) (f := f) (n := n) (e := tqE f n e) ht hp.1 hp.2.2.2 (by omega) (by omega)
    obtain ⟨o, J', hr, hf, hc⟩ := sp_38i (W := W) (J := J1) (sg := -1) (x3 := jI 1) (by rw [f1 2 (by decide)]; exact ht) pc1 (by omega) (by omega) l0 l1 h0 h1 (Or.inr rfl)
    refine ⟨o, J', fun Q => ?_, fun r h => by rw [hf r h, f1 r h], hc⟩
    rw [sg_38_0, if_neg (by decide), sp_41 ht hp e0 e1 (by decide) (by decide), hg]
    simp only [zk_l, zk_r, Option.toList_some, Option.toList_none, List.cons_append, List.nil_append, zrokB, zrokB0, zrokB1, zrokJ0, zrokJ1, and_true, true_and, and_self, if_true, if_false, b2_0, b2_1, b2_not, ite_self]
    rw [sg_38_13, if_neg (by decide), r1]
    simp only [zk_l, zk_r, Option.toList_some, Option.toList_none, List.cons_append, List.nil_append, zrokB, zrokB0, zrokB1, zrokJ0, zrokJ1, and_true, true_and, and_self, if_true, if_false, b2_0, b2_1, b2_not, ite_self]
    exact hr Q
end
