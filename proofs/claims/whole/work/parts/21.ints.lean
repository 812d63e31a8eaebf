/-! ===== ints as whole numbers ===== -/
def jI (a : Int) : Int32 := Int32.ofInt a
theorem jI_of (x : Int32) : jI x.toInt = x := Int32.ofInt_toInt x
theorem jI_toInt {a : Int} (h1 : -2147483648 ≤ a) (h2 : a < 2147483648) : (jI a).toInt = a := Int32.toInt_ofInt_of_le h1 h2
theorem jI_add (a b : Int) : jI a + jI b = jI (a + b) := (Int32.ofInt_add a b).symm
theorem jI_sub (a b : Int) : jI a - jI b = jI (a - b) := (Int32.ofInt_sub a b).symm
theorem jI_mul (a b : Int) : jI a * jI b = jI (a * b) := (Int32.ofInt_mul a b).symm
theorem jI_neg (a : Int) : - jI a = jI (-a) := (Int32.ofInt_neg a).symm
theorem jI_lit (n : Nat) : (OfNat.ofNat n : Int32) = jI (OfNat.ofNat n) := rfl
theorem jI_nat (n : Nat) : Int32.ofNat n = jI n := rfl
theorem jI_lo (x : Int32) : -2147483648 ≤ x.toInt := Int32.le_toInt x
theorem jI_hi (x : Int32) : x.toInt < 2147483648 := Int32.toInt_lt x
theorem jI_lt {a b : Int} (h1 : -2147483648 ≤ a) (h2 : a < 2147483648) (h3 : -2147483648 ≤ b) (h4 : b < 2147483648) : (jI a < jI b) = (a < b) := by
  rw [Int32.lt_iff_toInt_lt, jI_toInt h1 h2, jI_toInt h3 h4]
theorem jI_le {a b : Int} (h1 : -2147483648 ≤ a) (h2 : a < 2147483648) (h3 : -2147483648 ≤ b) (h4 : b < 2147483648) : (jI a ≤ jI b) = (a ≤ b) := by
  rw [Int32.le_iff_toInt_le, jI_toInt h1 h2, jI_toInt h3 h4]
theorem jI_eq {a b : Int} (h1 : -2147483648 ≤ a) (h2 : a < 2147483648) (h3 : -2147483648 ≤ b) (h4 : b < 2147483648) : (jI a = jI b) = (a = b) := by
  rw [← Int32.toInt_inj, jI_toInt h1 h2, jI_toInt h3 h4]
theorem jI_cl {a : Int} (h1 : -2147483648 ≤ a) (h2 : a < 2147483648) : (jI a).toNatClampNeg = a.toNat := by
  show (jI a).toInt.toNat = a.toNat
  rw [jI_toInt h1 h2]
theorem jI_in {a : Int} {n : Nat} (h1 : 0 ≤ a) (h2 : a < n) (h3 : n ≤ 2147483648) : zvin (jI a) n = true := by
  unfold zvin
  rw [jI_cl (by omega) (by omega)]
  simp only [Bool.not_eq_true', Bool.or_eq_false_iff, decide_eq_false_iff_not]
  constructor
  · rw [show (0 : Int32) = jI 0 from rfl, jI_lt (by omega) (by omega) (by omega) (by omega)]
    omega
  · omega
theorem jI_div {a b : Int} (h1 : -2147483648 ≤ a) (h2 : a < 2147483648) (h3 : 0 < b) (h4 : b < 2147483648) : jI a / jI b = jI (a.tdiv b) := by
  rw [← Int32.toInt_inj, Int32.toInt_div, jI_toInt h1 h2, jI_toInt (by omega) h4]
  exact Int32.toInt_ofInt.symm
theorem jI_dn {a b : Nat} (h1 : a < 2147483648) (h3 : 0 < b) (h4 : b < 2147483648) : jI a / jI b = jI ((a / b : Nat) : Int) := by
  rw [jI_div (by omega) (by omega) (by omega) (by omega)]
  rfl
theorem jI_rn {a b : Nat} (h1 : a < 2147483648) (h3 : 0 < b) (h4 : b < 2147483648) : jI a - jI a / jI b * jI b = jI ((a % b : Nat) : Int) := by
  rw [jI_dn h1 h3 h4, jI_mul, jI_sub]
  congr 1
  have := Nat.div_add_mod a b
  have h9 : ((a / b : Nat) : Int) * (b : Int) = ((b * (a / b) : Nat) : Int) := by rw [Nat.mul_comm]; rfl
  rw [h9]
  omega
/-! ===== loops ===== -/
theorem zloop {f : Nat → Prop} : ∀ (n : Nat), (∀ k, k < n → f k = f (k + 1)) → f 0 = f n := by
  intro n
  induction n with
  | zero => intro _; rfl
  | succ n ih => intro h; exact (ih fun k hk => h k (by omega)).trans (h n (by omega))
/-- n steps of f -/
def zfold {α : Type} (f : Nat → α → α) (a : α) : Nat → α
  | 0 => a
  | n + 1 => f n (zfold f a n)
theorem zloopf {α : Type} {P : Nat → α → Prop} {f : Nat → α → α} {a : α} (n : Nat) (h : ∀ k, k < n → P k (zfold f a k) = P (k + 1) (f k (zfold f a k))) : P 0 a = P n (zfold f a n) :=
  zloop (f := fun k => P k (zfold f a k)) n h
/-- the first place below n where c holds; n if there is none -/
def zfst (c : Nat → Bool) : Nat → Nat
  | 0 => 0
  | n + 1 => if c 0 then 0 else zfst (fun k => c (k + 1)) n + 1
theorem zfst_le (c : Nat → Bool) : ∀ n, zfst c n ≤ n := by
  intro n
  induction n generalizing c with
  | zero => exact Nat.le_refl 0
  | succ n ih =>
    unfold zfst
    split
    · omega
    · have := ih (fun k => c (k + 1)); omega
theorem zfst_no (c : Nat → Bool) : ∀ n k, k < zfst c n → c k = false := by
  intro n
  induction n generalizing c with
  | zero => intro k h; unfold zfst at h; omega
  | succ n ih =>
    intro k h
    unfold zfst at h
    split at h
    · omega
    · rename_i h0
      cases k with
      | zero => simpa using h0
      | succ k => exact ih (fun k => c (k + 1)) k (by omega)
theorem zfst_yes (c : Nat → Bool) : ∀ n, zfst c n < n → c (zfst c n) = true := by
  intro n
  induction n generalizing c with
  | zero => intro h; omega
  | succ n ih =>
    intro h
    unfold zfst at h ⊢
    split
    · assumption
    · rename_i h0
      rw [if_neg h0] at h
      exact ih (fun k => c (k + 1)) (by omega)
/-- a search: while c doesn't hold the loop goes on -/
theorem zloops {f : Nat → Prop} (c : Nat → Bool) (n : Nat) (h : ∀ k, k < n → c k = false → f k = f (k + 1)) : f 0 = f (zfst c n) :=
  zloop (zfst c n) (fun k hk => h k (by have := zfst_le c n; omega) (zfst_no c n k hk))
theorem jI_dv {a b : Int} (h0 : 0 ≤ a) (h1 : a < 2147483648) (h3 : 0 < b) (h4 : b < 2147483648) : jI a / jI b = jI (a / b) := by
  rw [jI_div (by omega) h1 h3 h4, Int.tdiv_eq_ediv_of_nonneg h0]
theorem jabs_j {a : Int} (h1 : -2147483647 ≤ a) (h2 : a < 2147483648) : jabs (jI a) = jI (a.natAbs : Int) := by
  unfold jabs
  rw [show (0 : Int32) = jI 0 from rfl]
  simp only [jI_le (a := 0) (b := a) (by omega) (by omega) (by omega) h2, jI_sub]
  split
  · rw [Int.natAbs_of_nonneg (by assumption)]
  · congr 1; omega
theorem jmax_j {a b : Int} (h1 : -2147483648 ≤ a) (h2 : a < 2147483648) (h3 : -2147483648 ≤ b) (h4 : b < 2147483648) : jmax (jI a) (jI b) = jI (max a b) := by
  unfold jmax
  simp only [jI_lt h1 h2 h3 h4]
  split
  · congr 1; omega
  · congr 1; omega
theorem jmin_j {a b : Int} (h1 : -2147483648 ≤ a) (h2 : a < 2147483648) (h3 : -2147483648 ≤ b) (h4 : b < 2147483648) : jmin (jI a) (jI b) = jI (min a b) := by
  unfold jmin
  simp only [jI_lt h3 h4 h1 h2]
  split
  · congr 1; omega
  · congr 1; omega
/-- all below n -/
def zAllB (p : Nat → Bool) : Nat → Bool
  | 0 => true
  | n + 1 => zAllB p n && p n
theorem zAllB_iff (p : Nat → Bool) : ∀ n, zAllB p n = true ↔ ∀ k, k < n → p k = true := by
  intro n
  induction n with
  | zero => simp [zAllB]
  | succ n ih =>
    unfold zAllB
    rw [Bool.and_eq_true, ih]
    constructor
    · intro h k hk
      by_cases e : k = n
      · rw [e]; exact h.2
      · exact h.1 k (by omega)
    · intro h
      exact ⟨fun k hk => h k (by omega), h n (by omega)⟩
theorem zloopE {α : Type} {f : Nat → α → Prop} (g : Nat → α → α) : ∀ (m : Nat) (v : α), (∀ k v, k < m → f k v = f (k + 1) (g k v)) → ∃ v', f 0 v = f m v' := by
  intro m
  induction m with
  | zero => intro v _; exact ⟨v, rfl⟩
  | succ m ih =>
    intro v h
    obtain ⟨v', e⟩ := ih v (fun k v hk => h k v (by omega))
    exact ⟨g m v', e.trans (h m v' (by omega))⟩
/-- a loop that goes on while p holds: A where it doesn't, B at the end -/
theorem zloop_all {α : Type} {f : Nat → α → Prop} {A B : Prop} (p : Nat → Bool) (n : Nat) (g : Nat → α → α) (v : α) (h1 : ∀ k v, k < n → p k = true → f k v = f (k + 1) (g k v)) (h2 : ∀ k v, k < n → p k = false → f k v = A) (h3 : ∀ v, f n v = B) :
    f 0 v = if zAllB p n = true then B else A := by
  obtain ⟨v', e⟩ := zloopE (f := f) g (zfst (fun k => !p k) n) v (fun k v hk => h1 k v (by have := zfst_le (fun k => !p k) n; omega) (by simpa using zfst_no (fun k => !p k) n k hk))
  rw [e]
  by_cases hn : zfst (fun k => !p k) n < n
  · have hy := zfst_yes (fun k => !p k) n hn
    rw [h2 _ _ hn (by simpa using hy), if_neg]
    intro h9
    have := (zAllB_iff p n).mp h9 _ hn
    simp [this] at hy
  · have hz : zfst (fun k => !p k) n = n := by have := zfst_le (fun k => !p k) n; omega
    rw [hz, h3, if_pos]
    rw [zAllB_iff]
    intro k hk
    simpa using zfst_no (fun k => !p k) n k (by omega)
/-- a loop with something that grows and something of no account -/
theorem zloopJ {α β : Type} {f : Nat → α → β → Prop} (st : Nat → α → α) (a : α) (n : Nat) (v : β) (h : ∀ k v, k < n → ∃ v', f k (zfold st a k) v = f (k + 1) (st k (zfold st a k)) v') : ∃ v', f 0 a v = f n (zfold st a n) v' := by
  induction n with
  | zero => exact ⟨v, rfl⟩
  | succ n ih =>
    obtain ⟨v', e⟩ := ih (fun k v hk => h k v (by omega))
    obtain ⟨v2, e2⟩ := h n v' (by omega)
    exact ⟨v2, e.trans e2⟩
/-! truth values -/
def b2 (b : Bool) : Int32 := bif b then 1 else 0
theorem b2_0 (b : Bool) : (b2 b = 0) = (b = false) := by cases b <;> decide
theorem b2_1 (b : Bool) : (b2 b = 1) = (b = true) := by cases b <;> decide
theorem b2_not (b : Bool) : (if b2 b = 0 then (1 : Int32) else 0) = b2 (!b) := by cases b <;> decide
theorem zrokB (b : Bool) : (zrok (some .boolean) (b2 b) = true) = True := by cases b <;> decide
theorem zrokB0 : (zrok (some .boolean) 0 = true) = True := by decide
theorem zrokB1 : (zrok (some .boolean) 1 = true) = True := by decide
