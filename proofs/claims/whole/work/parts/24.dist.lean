/-! ===== LEAST COSTS OF WAYS ===== -/
/-- a way of t steps to the cell k with the cost y -/
def rc (adj : Int → Int → Bool) (n : Int) (c0 v : Int → Int) : Nat → Int → Int → Prop
  | 0, k, y => 0 ≤ k ∧ k < n ∧ c0 k ≠ -1 ∧ y = c0 k
  | t + 1, k, y => ∃ j z, rc adj n c0 v t j z ∧ 0 ≤ k ∧ k < n ∧ adj j k = true ∧ v k ≠ -1 ∧ y = z + v k
theorem rc_in {adj : Int → Int → Bool} {n : Int} {c0 v : Int → Int} {t : Nat} {k y : Int} (h : rc adj n c0 v t k y) : 0 ≤ k ∧ k < n := by
  cases t with
  | zero => exact ⟨h.1, h.2.1⟩
  | succ t => obtain ⟨j, z, -, h1, h2, -⟩ := h; exact ⟨h1, h2⟩
/-- x is the least cost everywhere; -1 where no way goes -/
def least (adj : Int → Int → Bool) (n : Int) (c0 v : Int → Int) (x : Int → Int) : Prop :=
  ∀ k, 0 ≤ k → k < n → (x k ≠ -1 → ∃ t, rc adj n c0 v t k (x k)) ∧ ∀ t y, rc adj n c0 v t k y → x k ≠ -1 ∧ x k ≤ y
theorem least_eq {adj : Int → Int → Bool} {n : Int} {c0 v x x' : Int → Int} (h : least adj n c0 v x) (h' : least adj n c0 v x') {k : Int} (h0 : 0 ≤ k) (h1 : k < n) : x k = x' k := by
  obtain ⟨a1, a2⟩ := h k h0 h1
  obtain ⟨b1, b2⟩ := h' k h0 h1
  by_cases hx : x k = -1
  · by_cases hx' : x' k = -1
    · rw [hx, hx']
    · obtain ⟨t, ht⟩ := b1 hx'
      exact absurd hx (a2 t _ ht).1
  · obtain ⟨t, ht⟩ := a1 hx
    have q1 := b2 t _ ht
    obtain ⟨t', ht'⟩ := b1 q1.1
    have q2 := a2 t' _ ht'
    omega
/-- what spreading keeps: every cost is a way's, and none is above its start -/
def spI (adj : Int → Int → Bool) (n : Int) (c0 v : Int → Int) (x : Int → Int) : Prop :=
  ∀ k, 0 ≤ k → k < n → (x k ≠ -1 → 0 ≤ x k ∧ ∃ t, rc adj n c0 v t k (x k)) ∧ (c0 k ≠ -1 → x k ≠ -1 ∧ x k ≤ c0 k)
def spF (adj : Int → Int → Bool) (n : Int) (v : Int → Int) (x : Int → Int) : Prop :=
  ∀ a b, 0 ≤ a → a < n → 0 ≤ b → b < n → x a ≠ -1 → v b ≠ -1 → adj a b = true → x b ≠ -1 ∧ x b ≤ x a + v b
theorem spF_least {adj : Int → Int → Bool} {n : Int} {c0 v x : Int → Int} (hI : spI adj n c0 v x) (hF : spF adj n v x) : least adj n c0 v x := by
  have key : ∀ (t : Nat) (k y : Int), rc adj n c0 v t k y → x k ≠ -1 ∧ x k ≤ y := by
    intro t
    induction t with
    | zero =>
      intro k y h
      obtain ⟨h0, h1, h2, rfl⟩ := h
      exact (hI k h0 h1).2 h2
    | succ t ih =>
      intro k y h
      obtain ⟨j, z, hj, h0, h1, h2, h3, rfl⟩ := h
      obtain ⟨q1, q2⟩ := ih j z hj
      obtain ⟨j0, j1⟩ := rc_in hj
      have := hF j k j0 j1 h0 h1 q1 h3 h2
      exact ⟨this.1, by omega⟩
  intro k h0 h1
  exact ⟨fun hx => ((hI k h0 h1).1 hx).2, fun t y h => key t k y h⟩
/-- one try of the spreading -/
def rst (adj : Int → Int → Bool) (v : Int → Int) (a b : Int) (q : (Int → Int) × Bool) : (Int → Int) × Bool :=
  if q.1 a ≠ -1 ∧ v b ≠ -1 ∧ adj a b = true ∧ (q.1 b = -1 ∨ q.1 a + v b < q.1 b) then (sset q.1 b (q.1 a + v b), true) else q
def rrow (adj : Int → Int → Bool) (v : Int → Int) (n : Nat) (a : Int) (q : (Int → Int) × Bool) : (Int → Int) × Bool := zfold (fun b q => rst adj v a b q) q n
def rpass (adj : Int → Int → Bool) (v : Int → Int) (n : Nat) (x : Int → Int) : (Int → Int) × Bool := zfold (fun a q => rrow adj v n a q) (x, false) n
/-- the weight of the costs -/
def wgt (x : Int → Int) : Nat → Nat
  | 0 => 0
  | n + 1 => wgt x n + (if x n = -1 then 1000 else (x n).toNat)
theorem wgt_ne {x : Int → Int} {b u : Int} : ∀ (n : Nat), (n : Int) ≤ b → wgt (sset x b u) n = wgt x n := by
  intro n
  induction n with
  | zero => intro _; rfl
  | succ n ih =>
    intro h
    unfold wgt
    rw [ih (by omega)]
    have e : sset x b u (n : Int) = x n := by unfold sset; rw [if_neg (by omega)]
    rw [e]
theorem wgt_lt {x : Int → Int} {b u : Int} (hu : 0 ≤ u) (hu2 : u < 1000) (h0 : 0 ≤ b) (hx : x b = -1 ∨ u < x b) : ∀ (n : Nat), b < n → wgt (sset x b u) n < wgt x n := by
  intro n
  induction n with
  | zero => intro h; omega
  | succ n ih =>
    intro h
    unfold wgt
    by_cases e : b = n
    · subst e
      rw [wgt_ne n (Int.le_refl _)]
      have e1 : sset x (n : Int) u (n : Int) = u := by unfold sset; rw [if_pos rfl]
      rw [e1, if_neg (by omega)]
      split
      · omega
      · rcases hx with hx | hx
        · contradiction
        · omega
    · have := ih (by omega)
      have e1 : sset x b u (n : Int) = x n := by unfold sset; rw [if_neg (by omega)]
      rw [e1]
      omega
theorem wgt_le {x : Int → Int} : ∀ (n : Nat) (k : Nat), k < n → 0 ≤ x k → (x k).toNat ≤ wgt x n := by
  intro n
  induction n with
  | zero => intro k h; omega
  | succ n ih =>
    intro k h hx
    unfold wgt
    by_cases e : k = n
    · subst e
      rw [if_neg (by omega)]
      omega
    · have := ih k (by omega) hx
      omega
/-- how many cells have a cost -/
def cst (x : Int → Int) : Nat → Nat
  | 0 => 0
  | n + 1 => cst x n + (if x n = -1 then 0 else 1)
theorem cst_le (x : Int → Int) : ∀ n, cst x n ≤ n := by
  intro n
  induction n with
  | zero => exact Nat.le_refl 0
  | succ n ih => unfold cst; split <;> omega
theorem cst_set {x : Int → Int} {b u : Int} (hu : u ≠ -1) (h0 : 0 ≤ b) : ∀ (n : Nat), cst (sset x b u) n = cst x n + (if b < n ∧ x b = -1 then 1 else 0) := by
  intro n
  induction n with
  | zero => unfold cst; rw [if_neg (by omega)]
  | succ n ih =>
    have hL : cst (sset x b u) (n + 1) = cst (sset x b u) n + (if sset x b u n = -1 then 0 else 1) := rfl
    have hR : cst x (n + 1) = cst x n + (if x n = -1 then 0 else 1) := rfl
    rw [hL, hR, ih]
    by_cases e : b = n
    · subst e
      have e1 : sset x (n : Int) u (n : Int) = u := by unfold sset; rw [if_pos rfl]
      have a0 : (if sset x (n : Int) u (n : Int) = -1 then 0 else 1 : Nat) = 1 := by rw [e1]; exact if_neg hu
      have a1 : (if (n : Int) < (n : Nat) ∧ x (n : Int) = -1 then 1 else 0 : Nat) = 0 := if_neg (by omega)
      by_cases hx : x n = -1
      · have a2 : (if (n : Int) < ((n + 1 : Nat) : Int) ∧ x (n : Int) = -1 then 1 else 0 : Nat) = 1 := if_pos ⟨by omega, hx⟩
        have a3 : (if x (n : Int) = -1 then 0 else 1 : Nat) = 0 := if_pos hx
        omega
      · have a2 : (if (n : Int) < ((n + 1 : Nat) : Int) ∧ x (n : Int) = -1 then 1 else 0 : Nat) = 0 := if_neg (fun h => hx h.2)
        have a3 : (if x (n : Int) = -1 then 0 else 1 : Nat) = 1 := if_neg hx
        omega
    · have e1 : sset x b u (n : Int) = x n := by unfold sset; rw [if_neg (by omega)]
      rw [e1]
      by_cases hx : b < n ∧ x b = -1
      · have a2 : (if b < ((n + 1 : Nat) : Int) ∧ x b = -1 then 1 else 0 : Nat) = 1 := if_pos ⟨by omega, hx.2⟩
        have a3 : (if b < (n : Int) ∧ x b = -1 then 1 else 0 : Nat) = 1 := if_pos hx
        omega
      · have a2 : (if b < ((n + 1 : Nat) : Int) ∧ x b = -1 then 1 else 0 : Nat) = 0 := if_neg (fun h => hx ⟨by omega, h.2⟩)
        have a3 : (if b < (n : Int) ∧ x b = -1 then 1 else 0 : Nat) = 0 := if_neg hx
        omega
/-- what spreading keeps, all of it -/
def spJ (adj : Int → Int → Bool) (n : Nat) (c0 v : Int → Int) (x : Int → Int) : Prop :=
  spI adj n c0 v x ∧ ∀ k : Int, 0 ≤ k → k < (n : Int) → -1 ≤ x k ∧ x k ≤ cst x n
def fire (adj : Int → Int → Bool) (v : Int → Int) (a b : Int) (x : Int → Int) : Prop := x a ≠ -1 ∧ v b ≠ -1 ∧ adj a b = true ∧ (x b = -1 ∨ x a + v b < x b)
theorem rst_yes {adj : Int → Int → Bool} {v : Int → Int} {a b : Int} {q : (Int → Int) × Bool} (h : fire adj v a b q.1) : rst adj v a b q = (sset q.1 b (q.1 a + v b), true) := if_pos h
theorem rst_no {adj : Int → Int → Bool} {v : Int → Int} {a b : Int} {q : (Int → Int) × Bool} (h : ¬ fire adj v a b q.1) : rst adj v a b q = q := if_neg h
theorem fire_J {adj : Int → Int → Bool} {n : Nat} {c0 v : Int → Int} (hn : n ≤ 24) (hv : ∀ k : Int, 0 ≤ k → k < (n : Int) → -1 ≤ v k ∧ v k ≤ 1) {a b : Int} (a0 : 0 ≤ a) (a1 : a < n) (b0 : 0 ≤ b) (b1 : b < n) {x : Int → Int} (h : spJ adj n c0 v x) (hf : fire adj v a b x) :
    spJ adj n c0 v (sset x b (x a + v b)) ∧ wgt (sset x b (x a + v b)) n < wgt x n := by
  obtain ⟨h1, h2⟩ := h
  obtain ⟨f1, f2, f3, f4⟩ := hf
  have hc := cst_le x n
  have ha := h2 a a0 a1
  have hb := h2 b b0 b1
  have hvb := hv b b0 b1
  have hu : 0 ≤ x a + v b := by omega
  have hcs := cst_set (x := x) (b := b) (u := x a + v b) (by omega) b0 n
  refine ⟨⟨fun k k0 k1 => ?_, fun k k0 k1 => ?_⟩, wgt_lt hu (by omega) b0 f4 n b1⟩
  · by_cases e : k = b
    · subst e
      have e1 : sset x k (x a + v k) k = x a + v k := by unfold sset; rw [if_pos rfl]
      rw [e1]
      obtain ⟨t, ht⟩ := ((h1 a a0 a1).1 f1).2
      refine ⟨fun _ => ⟨hu, t + 1, a, x a, ht, b0, b1, f3, f2, rfl⟩, fun hc0 => ⟨by omega, ?_⟩⟩
      have := (h1 k k0 k1).2 hc0
      omega
    · have e1 : sset x b (x a + v b) k = x k := by unfold sset; rw [if_neg e]
      rw [e1]
      exact h1 k k0 k1
  · rw [hcs]
    by_cases e : k = b
    · subst e
      have e1 : sset x k (x a + v k) k = x a + v k := by unfold sset; rw [if_pos rfl]
      rw [e1]
      split
      · omega
      · rename_i h9
        rcases f4 with f4 | f4
        · exact absurd ⟨b1, f4⟩ h9
        · omega
    · have e1 : sset x b (x a + v b) k = x k := by unfold sset; rw [if_neg e]
      rw [e1]
      have := h2 k k0 k1
      split <;> omega
/-- from x0 to q -/
def spR (adj : Int → Int → Bool) (n : Nat) (c0 v : Int → Int) (x0 : Int → Int) (q : (Int → Int) × Bool) : Prop :=
  spJ adj n c0 v q.1 ∧ wgt q.1 n ≤ wgt x0 n ∧ (q.2 = true → wgt q.1 n < wgt x0 n) ∧ (q.2 = false → q.1 = x0)
section
variable {adj : Int → Int → Bool} {n : Nat} {c0 v x0 : Int → Int}
theorem rst_R (hn : n ≤ 24) (hv : ∀ k : Int, 0 ≤ k → k < (n : Int) → -1 ≤ v k ∧ v k ≤ 1) {a b : Int} (a0 : 0 ≤ a) (a1 : a < n) (b0 : 0 ≤ b) (b1 : b < n) {q : (Int → Int) × Bool} (h : spR adj n c0 v x0 q) : spR adj n c0 v x0 (rst adj v a b q) := by
  by_cases hf : fire adj v a b q.1
  · rw [rst_yes hf]
    obtain ⟨h1, h2, h3, h4⟩ := h
    obtain ⟨g1, g2⟩ := fire_J hn hv a0 a1 b0 b1 h1 hf
    exact ⟨g1, by simp only; omega, fun _ => by simp only; omega, (fun h9 => by cases h9)⟩
  · rw [rst_no hf]; exact h
theorem rrow_R (hn : n ≤ 24) (hv : ∀ k : Int, 0 ≤ k → k < (n : Int) → -1 ≤ v k ∧ v k ≤ 1) {a : Int} (a0 : 0 ≤ a) (a1 : a < n) {q : (Int → Int) × Bool} (h : spR adj n c0 v x0 q) : ∀ m : Nat, m ≤ n → spR adj n c0 v x0 (zfold (fun b q => rst adj v a b q) q m) := by
  intro m
  induction m with
  | zero => intro _; exact h
  | succ m ih => intro hm; exact rst_R hn hv a0 a1 (by omega) (by omega) (ih (by omega))
theorem rpass_R (hn : n ≤ 24) (hv : ∀ k : Int, 0 ≤ k → k < (n : Int) → -1 ≤ v k ∧ v k ≤ 1) (h : spJ adj n c0 v x0) : ∀ m : Nat, m ≤ n → spR adj n c0 v x0 (zfold (fun a q => rrow adj v n a q) (x0, false) m) := by
  intro m
  induction m with
  | zero => intro _; exact ⟨h, Nat.le_refl _, (fun h => by cases h), (fun _ => rfl)⟩
  | succ m ih => intro hm; exact rrow_R hn hv (by omega) (by omega) (ih (by omega)) n (Nat.le_refl n)
theorem rrow_no {a : Int} {q : (Int → Int) × Bool} : ∀ m : Nat, (zfold (fun b q => rst adj v a b q) q m).2 = false → zfold (fun b q => rst adj v a b q) q m = q ∧ ∀ b : Nat, b < m → ¬ fire adj v a b q.1 := by
  intro m
  induction m with
  | zero => intro _; exact ⟨rfl, fun b hb => by omega⟩
  | succ m ih =>
    intro h
    have e : zfold (fun b q => rst adj v a b q) q (m + 1) = rst adj v a m (zfold (fun b q => rst adj v a b q) q m) := rfl
    rw [e] at h ⊢
    by_cases hf : fire adj v a m (zfold (fun b q => rst adj v a b q) q m).1
    · rw [rst_yes hf] at h; cases h
    · rw [rst_no hf] at h ⊢
      obtain ⟨h1, h2⟩ := ih h
      refine ⟨h1, fun b hb => ?_⟩
      by_cases hbm : b = m
      · subst hbm; rw [h1] at hf; exact hf
      · exact h2 b (by omega)
theorem rpass_no : ∀ m : Nat, (zfold (fun a q => rrow adj v n a q) (x0, false) m).2 = false → zfold (fun a q => rrow adj v n a q) (x0, false) m = (x0, false) ∧ ∀ a : Nat, a < m → ∀ b : Nat, b < n → ¬ fire adj v a b x0 := by
  intro m
  induction m with
  | zero => intro _; exact ⟨rfl, fun a ha => by omega⟩
  | succ m ih =>
    intro h
    have e : zfold (fun a q => rrow adj v n a q) (x0, false) (m + 1) = rrow adj v n m (zfold (fun a q => rrow adj v n a q) (x0, false) m) := rfl
    rw [e] at h ⊢
    obtain ⟨g1, g2⟩ := rrow_no n h
    have g3 : rrow adj v n m (zfold (fun a q => rrow adj v n a q) (x0, false) m) = zfold (fun a q => rrow adj v n a q) (x0, false) m := g1
    rw [g3] at h ⊢
    obtain ⟨h1, h2⟩ := ih h
    refine ⟨h1, fun a ha b hb => ?_⟩
    by_cases e2 : a = m
    · subst e2
      have := g2 b hb
      rw [h1] at this
      exact this
    · exact h2 a (by omega) b hb
theorem rpass_F (h : (rpass adj v n x0).2 = false) : (rpass adj v n x0).1 = x0 ∧ spF adj n v x0 := by
  obtain ⟨h1, h2⟩ := rpass_no (adj := adj) (v := v) (n := n) (x0 := x0) n h
  refine ⟨by unfold rpass; rw [h1], fun a b a0 a1 b0 b1 f1 f2 f3 => ?_⟩
  have h3 := h2 a.toNat (by omega) b.toNat (by omega)
  rw [Int.toNat_of_nonneg a0, Int.toNat_of_nonneg b0] at h3
  unfold fire at h3
  by_cases q : x0 b = -1
  · exact absurd ⟨f1, f2, f3, Or.inl q⟩ h3
  · refine ⟨q, ?_⟩
    by_cases q2 : x0 a + v b < x0 b
    · exact absurd ⟨f1, f2, f3, Or.inr q2⟩ h3
    · omega
end
