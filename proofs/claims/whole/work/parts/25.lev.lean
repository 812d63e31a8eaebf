/-! ===== ways by levels ===== -/
def cntB (p : Nat → Bool) : Nat → Nat
  | 0 => 0
  | n + 1 => cntB p n + (if p n = true then 1 else 0)
theorem cntB_le (p : Nat → Bool) : ∀ n, cntB p n ≤ n := by
  intro n
  induction n with
  | zero => exact Nat.le_refl 0
  | succ n ih => unfold cntB; split <;> omega
theorem cntB_mono {p q : Nat → Bool} : ∀ n, (∀ k, k < n → p k = true → q k = true) → cntB p n ≤ cntB q n := by
  intro n
  induction n with
  | zero => intro _; exact Nat.le_refl 0
  | succ n ih =>
    intro h
    have h1 := ih (fun k hk => h k (by omega))
    have h2 := h n (by omega)
    unfold cntB
    split
    · rename_i hp; rw [if_pos (h2 hp)]; omega
    · split <;> omega
theorem cntB_lt {p q : Nat → Bool} : ∀ n, (∀ k, k < n → p k = true → q k = true) → (∃ k, k < n ∧ q k = true ∧ p k = false) → cntB p n < cntB q n := by
  intro n
  induction n with
  | zero => rintro _ ⟨k, h, -⟩; omega
  | succ n ih =>
    rintro h ⟨k, hk, hq, hp⟩
    unfold cntB
    by_cases e : k = n
    · subst e
      have h1 := cntB_mono k (fun j hj => h j (by omega))
      rw [hq, hp]
      simp
      omega
    · have h1 := ih (fun j hj => h j (by omega)) ⟨k, by omega, hq, hp⟩
      have h2 := h n (by omega)
      split
      · rename_i hp; rw [if_pos (h2 hp)]; omega
      · split <;> omega
/-- some j below n with p -/
def zAnyB (p : Nat → Bool) (n : Nat) : Bool := !(zAllB (fun j => !(p j)) n)
theorem zAnyB_iff (p : Nat → Bool) (n : Nat) : zAnyB p n = true ↔ ∃ j, j < n ∧ p j = true := by
  unfold zAnyB
  rw [Bool.not_eq_true', ← Bool.not_eq_true, zAllB_iff]
  constructor
  · intro h
    apply Classical.byContradiction
    intro h2
    refine h (fun k hk => ?_)
    cases hp : p k with
    | false => rfl
    | true => exact absurd ⟨k, hk, hp⟩ h2
  · rintro ⟨j, hj, hp⟩ h
    have := h j hj
    rw [hp] at this
    cases this
section
variable {adj : Int → Int → Bool} {n : Nat} {src op : Int → Bool}
def nbr (adj : Int → Int → Bool) (n : Nat) (E : Int → Bool) (k : Int) : Bool := zAnyB (fun j => E j && adj j k) n
/-- the edge and all that is reached, level by level -/
def lev (adj : Int → Int → Bool) (n : Nat) (src op : Int → Bool) : Nat → (Int → Bool) × (Int → Bool)
  | 0 => (fun k => src k && op k, fun k => src k && op k)
  | i + 1 => (fun k => nbr adj n (lev adj n src op i).1 k && op k && !((lev adj n src op i).2 k), fun k => (lev adj n src op i).2 k || (nbr adj n (lev adj n src op i).1 k && op k && !((lev adj n src op i).2 k)))
def lc0 (src op : Int → Bool) (k : Int) : Int := if (src k && op k) = true then 1 else -1
def lv1 (op : Int → Bool) (k : Int) : Int := if op k = true then 1 else -1
theorem lc_y : ∀ (t : Nat) (k y : Int), rc adj n (lc0 src op) (lv1 op) t k y → y = t + 1 := by
  intro t
  induction t with
  | zero =>
    intro k y h
    obtain ⟨-, -, h1, rfl⟩ := h
    unfold lc0 at h1 ⊢
    split at h1
    · rename_i h2; rw [if_pos h2]; rfl
    · exact absurd rfl h1
  | succ t ih =>
    intro k y h
    obtain ⟨j, z, hj, -, -, -, hv, rfl⟩ := h
    have := ih j z hj
    unfold lv1 at hv ⊢
    split at hv
    · rename_i h2; rw [if_pos h2]; omega
    · exact absurd rfl hv
/-- reached by a way of t steps -/
def rt (adj : Int → Int → Bool) (n : Nat) (src op : Int → Bool) (t : Nat) (k : Int) : Prop := rc adj n (lc0 src op) (lv1 op) t k (t + 1)
theorem rt_0 {k : Int} : rt adj n src op 0 k ↔ 0 ≤ k ∧ k < n ∧ (src k && op k) = true := by
  unfold rt rc lc0
  constructor
  · rintro ⟨h0, h1, h2, -⟩
    refine ⟨h0, h1, ?_⟩
    split at h2
    · assumption
    · exact absurd rfl h2
  · rintro ⟨h0, h1, h2⟩
    exact ⟨h0, h1, by rw [if_pos h2]; decide, by rw [if_pos h2]; rfl⟩
theorem rt_s {t : Nat} {k : Int} : rt adj n src op (t + 1) k ↔ ∃ j, rt adj n src op t j ∧ 0 ≤ k ∧ k < n ∧ adj j k = true ∧ op k = true := by
  constructor
  · rintro ⟨j, z, hj, h0, h1, h2, h3, h4⟩
    have hz := lc_y t j z hj
    subst hz
    refine ⟨j, hj, h0, h1, h2, ?_⟩
    unfold lv1 at h3
    split at h3
    · assumption
    · exact absurd rfl h3
  · rintro ⟨j, hj, h0, h1, h2, h3⟩
    have e : lv1 op k = 1 := by unfold lv1; rw [if_pos h3]
    exact ⟨j, _, hj, h0, h1, h2, by rw [e]; decide, by rw [e]; simp⟩
theorem rt_in {t : Nat} {k : Int} (h : rt adj n src op t k) : 0 ≤ k ∧ k < n := rc_in h
theorem nbr_iff {E : Int → Bool} {k : Int} : nbr adj n E k = true ↔ ∃ j : Int, 0 ≤ j ∧ j < n ∧ E j = true ∧ adj j k = true := by
  unfold nbr
  rw [zAnyB_iff]
  constructor
  · rintro ⟨j, hj, h⟩
    rw [Bool.and_eq_true] at h
    exact ⟨j, by omega, by omega, h.1, h.2⟩
  · rintro ⟨j, h0, h1, h2, h3⟩
    refine ⟨j.toNat, by omega, ?_⟩
    rw [Int.toNat_of_nonneg h0, h2, h3]
    rfl
theorem lev_R : ∀ (i : Nat), (∀ k : Int, 0 ≤ k → k < n → ((lev adj n src op i).2 k = true ↔ ∃ t, t ≤ i ∧ rt adj n src op t k)) ∧ (∀ k : Int, 0 ≤ k → k < n → ((lev adj n src op i).1 k = true ↔ rt adj n src op i k ∧ ∀ t, t < i → ¬ rt adj n src op t k)) := by
  intro i
  induction i with
  | zero =>
    constructor
    · intro k h0 h1
      constructor
      · intro h; exact ⟨0, Nat.le_refl 0, rt_0.mpr ⟨h0, h1, h⟩⟩
      · rintro ⟨t, ht, h⟩
        obtain rfl : t = 0 := by omega
        exact (rt_0.mp h).2.2
    · intro k h0 h1
      constructor
      · intro h; exact ⟨rt_0.mpr ⟨h0, h1, h⟩, fun t ht => by omega⟩
      · rintro ⟨h, -⟩; exact (rt_0.mp h).2.2
  | succ i ih =>
    obtain ⟨ih1, ih2⟩ := ih
    have hE : ∀ k : Int, 0 ≤ k → k < n → ((lev adj n src op (i + 1)).1 k = true ↔ rt adj n src op (i + 1) k ∧ ∀ t, t < i + 1 → ¬ rt adj n src op t k) := by
      intro k h0 h1
      show (nbr adj n (lev adj n src op i).1 k && op k && !((lev adj n src op i).2 k)) = true ↔ _
      rw [Bool.and_eq_true, Bool.and_eq_true, nbr_iff, Bool.not_eq_true', ← Bool.not_eq_true, ih1 k h0 h1]
      constructor
      · rintro ⟨⟨⟨j, j0, j1, j2, j3⟩, ho⟩, hr⟩
        refine ⟨rt_s.mpr ⟨j, ((ih2 j j0 j1).mp j2).1, h0, h1, j3, ho⟩, fun t ht h => hr ⟨t, by omega, h⟩⟩
      · rintro ⟨h, hno⟩
        obtain ⟨j, hj, -, -, h2, h3⟩ := rt_s.mp h
        obtain ⟨j0, j1⟩ := rt_in hj
        refine ⟨⟨⟨j, j0, j1, (ih2 j j0 j1).mpr ⟨hj, fun t ht h9 => ?_⟩, h2⟩, h3⟩, fun ⟨t, ht, h9⟩ => hno t (by omega) h9⟩
        exact hno (t + 1) (by omega) (rt_s.mpr ⟨j, h9, h0, h1, h2, h3⟩)
    refine ⟨fun k h0 h1 => ?_, hE⟩
    show ((lev adj n src op i).2 k || (lev adj n src op (i + 1)).1 k) = true ↔ _
    rw [Bool.or_eq_true, ih1 k h0 h1, hE k h0 h1]
    constructor
    · rintro (⟨t, ht, h⟩ | ⟨h, -⟩)
      · exact ⟨t, by omega, h⟩
      · exact ⟨i + 1, Nat.le_refl _, h⟩
    · rintro ⟨t, ht, h⟩
      by_cases hx : ∃ t, t ≤ i ∧ rt adj n src op t k
      · exact Or.inl hx
      · right
        have e : t = i + 1 := by
          by_cases q : t ≤ i
          · exact absurd ⟨t, q, h⟩ hx
          · omega
        subst e
        exact ⟨h, fun t ht h9 => hx ⟨t, by omega, h9⟩⟩
/-- whoever is reached is reached within n steps -/
theorem lev_bd {t : Nat} {k : Int} (h : rt adj n src op t k) (hmin : ∀ t', t' < t → ¬ rt adj n src op t' k) : t < n := by
  have step : ∀ (m : Nat), m ≤ t → ∃ j, rt adj n src op (t - m) j ∧ ∀ t', t' < t - m → ¬ rt adj n src op t' j := by
    intro m
    induction m with
    | zero => intro _; exact ⟨k, h, hmin⟩
    | succ m ih =>
      intro hm
      obtain ⟨j, h1, h2⟩ := ih (by omega)
      obtain ⟨q, hq⟩ : ∃ q, t - m = q + 1 := ⟨t - m - 1, by omega⟩
      rw [hq] at h1 h2
      obtain ⟨i, hi, j0, j1, j2, j3⟩ := rt_s.mp h1
      have e : t - (m + 1) = q := by omega
      rw [e]
      exact ⟨i, hi, fun t' ht' h9 => h2 (t' + 1) (by omega) (rt_s.mpr ⟨i, h9, j0, j1, j2, j3⟩)⟩
  have cnt : ∀ (i : Nat), i ≤ t → i + 1 ≤ cntB (fun q => (lev adj n src op i).2 q) n := by
    intro i
    induction i with
    | zero =>
      intro _
      obtain ⟨j, h1, -⟩ := step t (Nat.le_refl t)
      rw [Nat.sub_self] at h1
      obtain ⟨j0, j1⟩ := rt_in h1
      have hz : cntB (fun _ => false) n = 0 := by
        have : ∀ n, cntB (fun _ => false) n = 0 := by
          intro n
          induction n with
          | zero => rfl
          | succ n ih => unfold cntB; rw [ih]; rfl
        exact this n
      have := cntB_lt (p := fun _ => false) (q := fun q => (lev adj n src op 0).2 q) n (fun _ _ h => by cases h) ⟨j.toNat, by omega, by
        try simp only
        rw [Int.toNat_of_nonneg j0, (lev_R 0).1 j j0 j1]
        exact ⟨0, Nat.le_refl 0, h1⟩, rfl⟩
      omega
    | succ i ih =>
      intro hi
      have h3 := ih (by omega)
      obtain ⟨j, h1, h2⟩ := step (t - (i + 1)) (by omega)
      rw [show t - (t - (i + 1)) = i + 1 by omega] at h1 h2
      obtain ⟨j0, j1⟩ := rt_in h1
      have := cntB_lt (p := fun q => (lev adj n src op i).2 q) (q := fun q => (lev adj n src op (i + 1)).2 q) n (fun q hq h9 => by
        show ((lev adj n src op i).2 q || _) = true
        try simp only at h9
        rw [h9]; rfl) ⟨j.toNat, by omega, by
          try simp only
          rw [Int.toNat_of_nonneg j0, (lev_R (i + 1)).1 j j0 j1]
          exact ⟨i + 1, Nat.le_refl _, h1⟩, by
          try simp only
          rw [Int.toNat_of_nonneg j0, ← Bool.not_eq_true, (lev_R i).1 j j0 j1]
          rintro ⟨t', ht', h9⟩
          exact h2 t' (by omega) h9⟩
      omega
  have h1 := cnt t (Nat.le_refl t)
  have h2 := cntB_le (fun q => (lev adj n src op t).2 q) n
  omega
/-- the way's length: the first level that holds the cell -/
def wl (adj : Int → Int → Bool) (n : Nat) (src op : Int → Bool) (cell : Int) : Int := if zfst (fun i => (lev adj n src op i).1 cell) 24 < 24 then (zfst (fun i => (lev adj n src op i).1 cell) 24 : Int) + 1 else -1
theorem wl_least (hn : n ≤ 24) : least adj n (lc0 src op) (lv1 op) (wl adj n src op) := by
  intro k h0 h1
  have hle := zfst_le (fun i => (lev adj n src op i).1 k) 24
  have hy := zfst_yes (fun i => (lev adj n src op i).1 k) 24
  have hno := zfst_no (fun i => (lev adj n src op i).1 k) 24
  constructor
  · intro hx
    unfold wl at hx ⊢
    by_cases hm : zfst (fun i => (lev adj n src op i).1 k) 24 < 24
    · rw [if_pos hm] at hx ⊢
      exact ⟨_, (((lev_R _).2 k h0 h1).mp (hy hm)).1⟩
    · rw [if_neg hm] at hx
      exact absurd rfl hx
  · intro t y hrc
    have hyt := lc_y t k y hrc
    subst hyt
    have hrt : rt adj n src op t k := hrc
    -- the least such t
    have hmin : ∃ t0, t0 ≤ t ∧ rt adj n src op t0 k ∧ ∀ t', t' < t0 → ¬ rt adj n src op t' k := by
      clear hrc
      induction t using Nat.strongRecOn with
      | ind t ih =>
        by_cases hx : ∃ t', t' < t ∧ rt adj n src op t' k
        · obtain ⟨t', ht', h9⟩ := hx
          obtain ⟨t0, a, b, c⟩ := ih t' ht' h9
          exact ⟨t0, by omega, b, c⟩
        · exact ⟨t, Nat.le_refl t, hrt, fun t' ht' h9 => hx ⟨t', ht', h9⟩⟩
    obtain ⟨t0, ht0, hr0, hm0⟩ := hmin
    have hb := lev_bd hr0 hm0
    have hE := ((lev_R (adj := adj) (n := n) (src := src) (op := op) t0).2 k h0 h1).mpr ⟨hr0, hm0⟩
    have hz : zfst (fun i => (lev adj n src op i).1 k) 24 ≤ t0 := by
      by_cases q : t0 < zfst (fun i => (lev adj n src op i).1 k) 24
      · have := hno t0 q
        try simp only at this
        rw [hE] at this
        cases this
      · omega
    unfold wl
    rw [if_pos (by omega)]
    constructor
    · omega
    · omega
end
