/-! ===== two goods in a chamber ===== -/
def dg (p k : Nat) : Nat := p / 3 ^ k % 3
theorem dg_0 (p : Nat) : dg p 0 = p % 3 := by unfold dg; rw [show (3 : Nat) ^ 0 = 1 from rfl, Nat.div_one]
theorem dg_1 (p : Nat) : dg p 1 = p / 3 % 3 := rfl
theorem dg_2 (p : Nat) : dg p 2 = p / 9 % 3 := rfl
theorem dg_3 (p : Nat) : dg p 3 = p / 27 % 3 := rfl
theorem dg_le (p k : Nat) : dg p k ≤ 2 := by unfold dg; omega
theorem dg_all {p q : Nat} (hp : p < 81) (hq : q < 81) (h : ∀ c, c < 4 → dg p c = dg q c) : p = q := by
  have h0 := h 0 (by decide)
  have h1 := h 1 (by decide)
  have h2 := h 2 (by decide)
  have h3 := h 3 (by decide)
  rw [dg_0, dg_0] at h0
  rw [dg_1, dg_1] at h1
  rw [dg_2, dg_2] at h2
  rw [dg_3, dg_3] at h3
  omega
def enc (e : Nat → Nat) : Nat := e 0 + 3 * e 1 + 9 * e 2 + 27 * e 3
theorem enc_lt {e : Nat → Nat} (h : ∀ c, c < 4 → e c ≤ 2) : enc e < 81 := by
  have h0 := h 0 (by decide)
  have h1 := h 1 (by decide)
  have h2 := h 2 (by decide)
  have h3 := h 3 (by decide)
  unfold enc
  omega
theorem enc_dg {e : Nat → Nat} (h : ∀ c, c < 4 → e c ≤ 2) : ∀ c, c < 4 → dg (enc e) c = e c := by
  have h0 := h 0 (by decide)
  have h1 := h 1 (by decide)
  have h2 := h 2 (by decide)
  have h3 := h 3 (by decide)
  intro c hc
  unfold enc
  obtain rfl | rfl | rfl | rfl : c = 0 ∨ c = 1 ∨ c = 2 ∨ c = 3 := by omega
  · rw [dg_0]; omega
  · rw [dg_1]; omega
  · rw [dg_2]; omega
  · rw [dg_3]; omega
/-- setting a digit -/
theorem dg_set {p q v : Nat} (hp : p < 81) (hq : q < 4) (hv : v ≤ 2) : p - dg p q * 3 ^ q + v * 3 ^ q < 81 ∧ dg p q * 3 ^ q ≤ p ∧ ∀ c, c < 4 → dg (p - dg p q * 3 ^ q + v * 3 ^ q) c = if c = q then v else dg p c := by
  obtain rfl | rfl | rfl | rfl : q = 0 ∨ q = 1 ∨ q = 2 ∨ q = 3 := by omega
  · rw [dg_0, show (3 : Nat) ^ 0 = 1 from rfl]
    refine ⟨by omega, by omega, fun c hc => ?_⟩
    obtain rfl | rfl | rfl | rfl : c = 0 ∨ c = 1 ∨ c = 2 ∨ c = 3 := by omega
    · rw [dg_0, if_pos rfl]; omega
    · rw [dg_1, dg_1, if_neg (by decide)]; omega
    · rw [dg_2, dg_2, if_neg (by decide)]; omega
    · rw [dg_3, dg_3, if_neg (by decide)]; omega
  · rw [dg_1, show (3 : Nat) ^ 1 = 3 from rfl]
    refine ⟨by omega, by omega, fun c hc => ?_⟩
    obtain rfl | rfl | rfl | rfl : c = 0 ∨ c = 1 ∨ c = 2 ∨ c = 3 := by omega
    · rw [dg_0, dg_0, if_neg (by decide)]; omega
    · rw [dg_1, if_pos rfl]; omega
    · rw [dg_2, dg_2, if_neg (by decide)]; omega
    · rw [dg_3, dg_3, if_neg (by decide)]; omega
  · rw [dg_2, show (3 : Nat) ^ 2 = 9 from rfl]
    refine ⟨by omega, by omega, fun c hc => ?_⟩
    obtain rfl | rfl | rfl | rfl : c = 0 ∨ c = 1 ∨ c = 2 ∨ c = 3 := by omega
    · rw [dg_0, dg_0, if_neg (by decide)]; omega
    · rw [dg_1, dg_1, if_neg (by decide)]; omega
    · rw [dg_2, if_pos rfl]; omega
    · rw [dg_3, dg_3, if_neg (by decide)]; omega
  · rw [dg_3, show (3 : Nat) ^ 3 = 27 from rfl]
    refine ⟨by omega, by omega, fun c hc => ?_⟩
    obtain rfl | rfl | rfl | rfl : c = 0 ∨ c = 1 ∨ c = 2 ∨ c = 3 := by omega
    · rw [dg_0, dg_0, if_neg (by decide)]; omega
    · rw [dg_1, dg_1, if_neg (by decide)]; omega
    · rw [dg_2, dg_2, if_neg (by decide)]; omega
    · rw [dg_3, if_pos rfl]; omega
/-- the place of the latest cell of a column, and one more -/
def ixD (w k c : Nat) : Nat := if w ≤ c then 0 else if c < k % w then k - k % w + c + 1 else if w ≤ k then k - k % w - w + c + 1 else 0
theorem ixD_le {w k c : Nat} (h1 : 1 ≤ w) (h4 : w ≤ 4) : ixD w k c ≤ k := by
  unfold ixD
  obtain rfl | rfl | rfl | rfl : w = 1 ∨ w = 2 ∨ w = 3 ∨ w = 4 := by omega
  all_goals
    split
    · omega
    · split
      · omega
      · split <;> omega
theorem ixD_s {w k c : Nat} (h1 : 1 ≤ w) (h4 : w ≤ 4) : ixD w (k + 1) c = if c = k % w then k + 1 else ixD w k c := by
  unfold ixD
  obtain rfl | rfl | rfl | rfl : w = 1 ∨ w = 2 ∨ w = 3 ∨ w = 4 := by omega
  all_goals
    repeat' split
    all_goals omega
def eD (w : Nat) (a : Nat → Nat) (k c : Nat) : Nat := if ixD w k c = 0 then 0 else a (ixD w k c - 1)
theorem eD_s {w : Nat} {a : Nat → Nat} {k c : Nat} (h1 : 1 ≤ w) (h4 : w ≤ 4) : eD w a (k + 1) c = if c = k % w then a k else eD w a k c := by
  unfold eD
  rw [ixD_s h1 h4]
  by_cases q : c = k % w
  · rw [if_pos q, if_pos q, if_neg (by omega)]
    rfl
  · rw [if_neg q, if_neg q]
theorem eD_cg {w : Nat} {a b : Nat → Nat} {k c : Nat} (h1 : 1 ≤ w) (h4 : w ≤ 4) (h : ∀ j, j < k → a j = b j) : eD w a k c = eD w b k c := by
  have := ixD_le (w := w) (k := k) (c := c) h1 h4
  unfold eD
  by_cases q : ixD w k c = 0
  · rw [if_pos q, if_pos q]
  · rw [if_neg q, if_neg q, h _ (by omega)]
theorem eD_le {w : Nat} {a : Nat → Nat} {k c : Nat} (h1 : 1 ≤ w) (h4 : w ≤ 4) (h : ∀ j, j < k → a j ≤ 2) : eD w a k c ≤ 2 := by
  have := ixD_le (w := w) (k := k) (c := c) h1 h4
  unfold eD
  by_cases q : ixD w k c = 0
  · rw [if_pos q]; omega
  · rw [if_neg q]; exact h _ (by omega)
/-- the left one and the one above -/
theorem eD_left {w : Nat} {a : Nat → Nat} {k : Nat} (h1 : 1 ≤ w) (h4 : w ≤ 4) (h : k % w ≠ 0) : eD w a k (k % w - 1) = a (k - 1) := by
  have hlt := Nat.mod_lt k (show w > 0 by omega)
  have hle := Nat.mod_le k w
  have : ixD w k (k % w - 1) = k := by
    unfold ixD
    rw [if_neg (by omega), if_pos (by omega)]
    omega
  unfold eD
  rw [this, if_neg (by omega)]
theorem eD_up {w : Nat} {a : Nat → Nat} {k : Nat} (h1 : 1 ≤ w) (h4 : w ≤ 4) : eD w a k (k % w) = if w ≤ k then a (k - w) else 0 := by
  have hlt := Nat.mod_lt k (show w > 0 by omega)
  have hle := Nat.mod_le k w
  unfold eD ixD
  rw [if_neg (show ¬ w ≤ k % w by omega), if_neg (show ¬ k % w < k % w by omega)]
  by_cases q : w ≤ k
  · rw [if_pos q, if_pos q, if_neg (by omega)]
    congr 1
    have : w + k % w ≤ k := by
      have h5 := Nat.div_add_mod k w
      have h6 : 1 ≤ k / w := Nat.div_pos q (by omega)
      have h7 := Nat.mul_le_mul_left w h6
      omega
    omega
  · rw [if_neg q, if_neg q, if_pos rfl]
section
variable {A B : Nat → Bool} {bad : Bool} {w : Nat}
def lgl (A B : Nat → Bool) (bad : Bool) (w : Nat) (a : Nat → Nat) (k : Nat) : Prop := a k ≤ 2 ∧ (a k = 1 → A k = true) ∧ (a k = 2 → B k = true) ∧ (bad = true → (k % w ≠ 0 → a k + a (k - 1) ≠ 3) ∧ (w ≤ k → a k + a (k - w) ≠ 3))
def cV (a : Nat → Nat) (v n : Nat) : Nat := cntB (fun k => decide (a k = v)) n
def pX (A B : Nat → Bool) (bad : Bool) (w k p m s : Nat) : Prop := ∃ a : Nat → Nat, (∀ j, j < k → lgl A B bad w a j) ∧ p < 81 ∧ (∀ c, c < 4 → dg p c = eD w a k c) ∧ cV a 1 k = m ∧ cV a 2 k = s
theorem lgl_cg {a b : Nat → Nat} {k : Nat} (h1 : 1 ≤ w) (h : ∀ j, j ≤ k → a j = b j) (hl : lgl A B bad w a k) : lgl A B bad w b k := by
  unfold lgl at hl ⊢
  rw [← h k (Nat.le_refl _), ← h (k - 1) (by omega), ← h (k - w) (by omega)]
  exact hl
theorem cV_cg {a b : Nat → Nat} {v n : Nat} (h : ∀ j, j < n → a j = b j) : cV a v n = cV b v n := cntB_cg _ (fun j hj => by
  try simp only
  rw [h j hj])
theorem cV_s {a : Nat → Nat} {v n : Nat} : cV a v (n + 1) = cV a v n + (if a n = v then 1 else 0) := by
  unfold cV
  rw [cnt_step]
  by_cases q : a n = v
  · rw [if_pos (decide_eq_true q), if_pos q]
  · rw [if_neg (by rw [decide_eq_false q]; decide), if_neg q]
/-- may v stand in the cell k, with the edge p -/
def ftC (A B : Nat → Bool) (bad : Bool) (w k p v : Nat) : Prop := v ≤ 2 ∧ (v = 1 → A k = true) ∧ (v = 2 → B k = true) ∧ (bad = true → (k % w ≠ 0 → v + dg p (k % w - 1) ≠ 3) ∧ v + dg p (k % w) ≠ 3)
theorem pX_lt {k p m s : Nat} (h : pX A B bad w k p m s) : p < 81 := by
  obtain ⟨a, -, h, -⟩ := h
  exact h
theorem pX_bd {k p m s : Nat} (h : pX A B bad w k p m s) : m + s ≤ k := by
  obtain ⟨a, -, -, -, rfl, rfl⟩ := h
  have key : ∀ n : Nat, cV a 1 n + cV a 2 n ≤ n := by
    intro n
    induction n with
    | zero => exact Nat.le_refl 0
    | succ n ih =>
      rw [cV_s, cV_s]
      by_cases q : a n = 1
      · rw [if_pos q, if_neg (by omega)]; omega
      · rw [if_neg q]
        split <;> omega
  exact key k
theorem pX_0 {p m s : Nat} (h1 : 1 ≤ w) (h4 : w ≤ 4) : pX A B bad w 0 p m s ↔ p = 0 ∧ m = 0 ∧ s = 0 := by
  have hz : ∀ c, c < 4 → dg 0 c = 0 := by decide
  have he : ∀ (a : Nat → Nat) c, eD w a 0 c = 0 := fun a c => by
    have := ixD_le (w := w) (k := 0) (c := c) h1 h4
    unfold eD
    rw [if_pos (by omega)]
  constructor
  · rintro ⟨a, -, hp, hd, hm, hs⟩
    refine ⟨dg_all hp (by decide) (fun c hc => by rw [hd c hc, he, hz c hc]), hm.symm, hs.symm⟩
  · rintro ⟨rfl, rfl, rfl⟩
    exact ⟨fun _ => 0, fun j hj => by omega, by decide, fun c hc => by rw [he, hz c hc], rfl, rfl⟩
theorem pX_cell' {k p m s v : Nat} (h1 : 1 ≤ w) (h4 : w ≤ 4) (h : pX A B bad w k p m s) (hf : ftC A B bad w k p v) : pX A B bad w (k + 1) (p - dg p (k % w) * 3 ^ (k % w) + v * 3 ^ (k % w)) (m + (if v = 1 then 1 else 0)) (s + (if v = 2 then 1 else 0)) := by
  obtain ⟨a, hl, hp, hd, hm, hs⟩ := h
  obtain ⟨f1, f2, f3, f4⟩ := hf
  have hq := Nat.mod_lt k (show w > 0 by omega)
  obtain ⟨g1, g2, g3⟩ := dg_set (p := p) (q := k % w) (v := v) hp (by omega) f1
  let b : Nat → Nat := fun j => if j = k then v else a j
  have hb : ∀ j, j < k → b j = a j := fun j hj => if_neg (by omega)
  have hbk : b k = v := if_pos rfl
  refine ⟨b, fun j hj => ?_, g1, fun c hc => ?_, ?_, ?_⟩
  · by_cases e : j = k
    · rw [e]
      unfold lgl
      rw [hbk]
      refine ⟨f1, f2, f3, fun hbad => ?_⟩
      obtain ⟨x1, x2⟩ := f4 hbad
      refine ⟨fun h0 => ?_, fun h0 => ?_⟩
      · have := x1 h0
        rw [hd _ (by omega), eD_left h1 h4 h0] at this
        have hk : k ≠ 0 := fun h9 => h0 (by rw [h9]; exact Nat.zero_mod w)
        rw [hb _ (by omega)]
        exact this
      · rw [hd _ (by omega), eD_up h1 h4, if_pos h0] at x2
        rw [hb _ (by omega)]
        exact x2
    · exact lgl_cg h1 (fun i hi => (hb i (by omega)).symm) (hl j (by omega))
  · rw [g3 c hc, eD_s h1 h4, hbk]
    by_cases e : c = k % w
    · rw [if_pos e, if_pos e]
    · rw [if_neg e, if_neg e, hd c hc]
      exact (eD_cg h1 h4 hb).symm
  · rw [cV_s, hbk, cV_cg hb, hm]
  · rw [cV_s, hbk, cV_cg hb, hs]
theorem pX_cell {k p' m' s' : Nat} (h1 : 1 ≤ w) (h4 : w ≤ 4) (h : pX A B bad w (k + 1) p' m' s') : ∃ p m s v, pX A B bad w k p m s ∧ ftC A B bad w k p v ∧ p' = p - dg p (k % w) * 3 ^ (k % w) + v * 3 ^ (k % w) ∧ m' = m + (if v = 1 then 1 else 0) ∧ s' = s + (if v = 2 then 1 else 0) := by
  obtain ⟨a, hl, hp, hd, hm, hs⟩ := h
  have hq := Nat.mod_lt k (show w > 0 by omega)
  have he : ∀ c, c < 4 → eD w a k c ≤ 2 := fun c hc => eD_le h1 h4 (fun j hj => (hl j (by omega)).1)
  have hen := enc_dg he
  have hlk := hl k (by omega)
  obtain ⟨f1, f2, f3, f4⟩ := hlk
  obtain ⟨g1, g2, g3⟩ := dg_set (p := enc (fun c => eD w a k c)) (q := k % w) (v := a k) (enc_lt he) (by omega) f1
  refine ⟨enc (fun c => eD w a k c), cV a 1 k, cV a 2 k, a k, ⟨a, fun j hj => hl j (by omega), enc_lt he, hen, rfl, rfl⟩, ⟨f1, f2, f3, fun hbad => ?_⟩, ?_, ?_, ?_⟩
  · obtain ⟨x1, x2⟩ := f4 hbad
    refine ⟨fun h0 => ?_, ?_⟩
    · rw [hen _ (by omega), eD_left h1 h4 h0]
      exact x1 h0
    · rw [hen _ (by omega), eD_up h1 h4]
      by_cases q : w ≤ k
      · rw [if_pos q]; exact x2 q
      · rw [if_neg q]; omega
  · refine dg_all hp g1 (fun c hc => ?_)
    rw [g3 c hc, hd c hc, eD_s h1 h4]
    by_cases e : c = k % w
    · rw [if_pos e, if_pos e]
    · rw [if_neg e, if_neg e, hen c hc]
  · rw [← hm, cV_s]
  · rw [← hs, cV_s]
/-- fewer of the first -/
theorem pX_drop {n p m s c : Nat} (h1 : 1 ≤ w) (h4 : w ≤ 4) (h : pX A B bad w n p m s) (hc : c ≤ m) : ∃ p', pX A B bad w n p' c s := by
  obtain ⟨a, hl, hp, hd, hm, hs⟩ := h
  let b : Nat → Nat := fun j => if a j = 1 ∧ c ≤ cV a 1 j then 0 else a j
  have hb : ∀ j, b j = 0 ∨ b j = a j := fun j => by
    show (if _ then _ else _) = _ ∨ (if _ then _ else _) = _
    by_cases q : a j = 1 ∧ c ≤ cV a 1 j
    · rw [if_pos q]; exact Or.inl rfl
    · rw [if_neg q]; exact Or.inr rfl
  have hc1 : ∀ j, cV b 1 j = min c (cV a 1 j) := by
    intro j
    induction j with
    | zero => exact (Nat.min_zero c).symm
    | succ j ih =>
      rw [cV_s, cV_s, ih]
      by_cases q : a j = 1
      · by_cases q2 : c ≤ cV a 1 j
        · have hbj : b j = 0 := if_pos ⟨q, q2⟩
          rw [hbj, q, if_neg (by decide), if_pos rfl]; omega
        · have hbj : b j = a j := if_neg (fun h => q2 h.2)
          rw [hbj, q, if_pos rfl]; omega
      · have hbj : b j = a j := if_neg (fun h => q h.1)
        rw [hbj, if_neg q]
        omega
  have hc2 : ∀ j, cV b 2 j = cV a 2 j := by
    intro j
    refine cntB_cg _ (fun i hi => ?_)
    try simp only
    rw [decide_eq_decide]
    show (if a i = 1 ∧ c ≤ cV a 1 i then 0 else a i) = 2 ↔ _
    by_cases q : a i = 1 ∧ c ≤ cV a 1 i
    · rw [if_pos q]; omega
    · rw [if_neg q]
  have hlb : ∀ j, j < n → lgl A B bad w b j := by
    intro j hj
    obtain ⟨f1, f2, f3, f4⟩ := hl j hj
    unfold lgl
    have x0 := hb j
    have x1 := hb (j - 1)
    have x2 := hb (j - w)
    have y0 : a (j - 1) ≤ 2 := (hl (j - 1) (by omega)).1
    have y1 : a (j - w) ≤ 2 := (hl (j - w) (by omega)).1
    refine ⟨by omega, fun h => f2 (by omega), fun h => f3 (by omega), fun hbad => ?_⟩
    obtain ⟨g1, g2⟩ := f4 hbad
    refine ⟨fun h => ?_, fun h => ?_⟩
    · have := g1 h; omega
    · have := g2 h; omega
  have he : ∀ i, i < 4 → eD w b n i ≤ 2 := fun i hi => eD_le h1 h4 (fun j hj => (hlb j hj).1)
  exact ⟨enc (fun i => eD w b n i), b, hlb, enc_lt he, enc_dg he, by rw [hc1, hm]; omega, by rw [hc2, hs]⟩
/-! goods that get on -/
theorem pX_get (h1 : 1 ≤ w) (h4 : w ≤ 4) {n p m s : Nat} (h : pX A B bad w n p m s) : m ≤ cntB A n ∧ s ≤ cntB B n ∧ m + s ≤ cntB (fun i => A i || B i) n := by
  obtain ⟨a, hl, hp, hd, hm, hs⟩ := h
  have key : ∀ k : Nat, k ≤ n → cV a 1 k ≤ cntB A k ∧ cV a 2 k ≤ cntB B k ∧ cV a 1 k + cV a 2 k ≤ cntB (fun i => A i || B i) k := by
    intro k
    induction k with
    | zero => intro _; exact ⟨Nat.le_refl 0, Nat.le_refl 0, Nat.le_refl 0⟩
    | succ k ih =>
      intro hk
      obtain ⟨i1, i2, i3⟩ := ih (by omega)
      obtain ⟨f1, f2, f3, -⟩ := hl k (by omega)
      rw [cV_s, cV_s, cnt_step, cnt_step, cnt_step]
      by_cases q1 : a k = 1
      · rw [if_pos q1, if_neg (show ¬ a k = 2 by omega), if_pos (f2 q1), if_pos (show (A k || B k) = true by rw [f2 q1]; rfl)]
        refine ⟨by omega, ?_, by omega⟩
        split <;> omega
      · rw [if_neg q1]
        by_cases q2 : a k = 2
        · rw [if_pos q2, if_pos (f3 q2), if_pos (show (A k || B k) = true by rw [f3 q2, Bool.or_true])]
          refine ⟨?_, by omega, by omega⟩
          split <;> omega
        · rw [if_neg q2]
          refine ⟨?_, ?_, ?_⟩ <;> (split <;> omega)
  have := key n (Nat.le_refl _)
  rw [hm, hs] at this
  exact this
theorem pX_mix (h1 : 1 ≤ w) (h4 : w ≤ 4) {n : Nat} : ∃ p m s, pX A B false w n p m s ∧ min (cntB (fun i => A i || B i) n / 2) (min (cntB A n) (cntB B n)) ≤ min m s := by
  -- alpha, beta, gamma
  let al := fun k => cntB (fun i => A i && !(B i)) k
  let be := fun k => cntB (fun i => B i && !(A i)) k
  let ga := fun k => cntB (fun i => A i && B i) k
  have hA : ∀ k, cntB A k = al k + ga k := by
    intro k
    induction k with
    | zero => rfl
    | succ k ih =>
      show cntB A (k + 1) = cntB _ (k + 1) + cntB _ (k + 1)
      rw [cnt_step, cnt_step, cnt_step, ih]
      show al k + ga k + _ = al k + _ + (ga k + _)
      cases A k <;> cases B k <;> simp <;> omega
  have hB : ∀ k, cntB B k = be k + ga k := by
    intro k
    induction k with
    | zero => rfl
    | succ k ih =>
      show cntB B (k + 1) = cntB _ (k + 1) + cntB _ (k + 1)
      rw [cnt_step, cnt_step, cnt_step, ih]
      show be k + ga k + _ = be k + _ + (ga k + _)
      cases A k <;> cases B k <;> simp <;> omega
  have hU : ∀ k, cntB (fun i => A i || B i) k = al k + be k + ga k := by
    intro k
    induction k with
    | zero => rfl
    | succ k ih =>
      show cntB _ (k + 1) = cntB _ (k + 1) + cntB _ (k + 1) + cntB _ (k + 1)
      rw [cnt_step, cnt_step, cnt_step, cnt_step, ih]
      show al k + be k + ga k + _ = al k + _ + (be k + _) + (ga k + _)
      cases A k <;> cases B k <;> simp <;> omega
  let x := min (al n + be n + ga n) (2 * (min (al n + ga n) (be n + ga n))) / 2 - al n
  let b : Nat → Nat := fun k => if A k = true then (if B k = true then (if ga k < x then 1 else 2) else 1) else (if B k = true then 2 else 0)
  have hc : ∀ k, cV b 1 k = al k + min (ga k) x ∧ cV b 2 k = be k + (ga k - x) := by
    intro k
    induction k with
    | zero => exact ⟨by show 0 = 0 + min 0 x; omega, by show 0 = 0 + (0 - x); omega⟩
    | succ k ih =>
      have e1 : al (k + 1) = al k + (if (A k && !(B k)) = true then 1 else 0) := cnt_step _ _
      have e2 : be (k + 1) = be k + (if (B k && !(A k)) = true then 1 else 0) := cnt_step _ _
      have e3 : ga (k + 1) = ga k + (if (A k && B k) = true then 1 else 0) := cnt_step _ _
      have eb : b k = if A k = true then (if B k = true then (if ga k < x then 1 else 2) else 1) else (if B k = true then 2 else 0) := rfl
      rw [cV_s, cV_s, ih.1, ih.2, e1, e2, e3, eb]
      cases hAk : A k <;> cases hBk : B k <;> simp
      all_goals first
        | omega
        | (by_cases q : ga k < x
           · rw [if_pos q, if_neg (by omega)]; omega
           · rw [if_neg q, if_pos (by omega)]; omega)
  have hlb : ∀ j, j < n → lgl A B false w b j := by
    intro j _
    have eb : b j = if A j = true then (if B j = true then (if ga j < x then 1 else 2) else 1) else (if B j = true then 2 else 0) := rfl
    refine ⟨?_, fun h => ?_, fun h => ?_, fun h => by cases h⟩
    · rw [eb]
      cases A j <;> cases B j <;> simp
      split <;> omega
    · rw [eb] at h
      cases hAj : A j
      · rw [hAj] at h
        cases hBj : B j <;> rw [hBj] at h <;> simp at h
      · rfl
    · rw [eb] at h
      cases hBj : B j
      · rw [hBj] at h
        cases hAj : A j <;> rw [hAj] at h <;> simp at h
      · rfl
  have he : ∀ i, i < 4 → eD w b n i ≤ 2 := fun i hi => eD_le h1 h4 (fun j hj => (hlb j hj).1)
  refine ⟨enc (fun i => eD w b n i), cV b 1 n, cV b 2 n, ⟨b, hlb, enc_lt he, enc_dg he, rfl, rfl⟩, ?_⟩
  rw [hU, hA, hB, (hc n).1, (hc n).2]
  show min ((al n + be n + ga n) / 2) (min (al n + ga n) (be n + ga n)) ≤ min (al n + min (ga n) (min (al n + be n + ga n) (2 * (min (al n + ga n) (be n + ga n))) / 2 - al n)) (be n + (ga n - (min (al n + be n + ga n) (2 * (min (al n + ga n) (be n + ga n))) / 2 - al n)))
  omega
/-! rows -/
def hmy (p v : Nat) : Nat := (if dg p 0 = v then 1 else 0) + (if dg p 1 = v then 1 else 0) + (if dg p 2 = v then 1 else 0) + (if dg p 3 = v then 1 else 0)
/-- may the row from b on be p -/
def rwO (A B : Nat → Bool) (bad : Bool) (w b p : Nat) : Prop := p < 81 ∧ ∀ c, c < 4 → (dg p c = 0 ∨ (c < w ∧ (dg p c = 1 → A (b + c) = true) ∧ (dg p c = 2 → B (b + c) = true))) ∧ (bad = true → c = 0 ∨ dg p c + dg p (c - 1) ≠ 3)
def bsO (bad : Bool) (p q : Nat) : Prop := bad = true → ∀ c, c < 4 → dg p c + dg q c ≠ 3
theorem eD_row {a : Nat → Nat} {b c : Nat} (h1 : 1 ≤ w) (h4 : w ≤ 4) (hb : b % w = 0) : eD w a (b + w) c = if w ≤ c then 0 else a (b + c) := by
  have h0 : (b + w) % w = 0 := by rw [Nat.add_mod_right]; exact hb
  unfold eD ixD
  rw [h0]
  by_cases q : w ≤ c
  · rw [if_pos q, if_pos q, if_pos rfl]
  · rw [if_neg q, if_neg q, if_neg (show ¬ c < 0 by omega), if_pos (show w ≤ b + w by omega), if_neg (show ¬ (b + w - 0 - w + c + 1 = 0) by omega)]
    congr 1
    omega
theorem eD_abv {a : Nat → Nat} {b c : Nat} (h1 : 1 ≤ w) (h4 : w ≤ 4) (hb : b % w = 0) : eD w a b c = if w ≤ c then 0 else if w ≤ b then a (b - w + c) else 0 := by
  unfold eD ixD
  rw [hb]
  by_cases q : w ≤ c
  · rw [if_pos q, if_pos q, if_pos rfl]
  · rw [if_neg q, if_neg q, if_neg (show ¬ c < 0 by omega)]
    by_cases q2 : w ≤ b
    · rw [if_pos q2, if_pos q2, if_neg (show ¬ (b - 0 - w + c + 1 = 0) by omega)]
      congr 1
    · rw [if_neg q2, if_neg q2, if_pos rfl]
theorem md_add {b c : Nat} (hb : b % w = 0) (hc : c < w) : (b + c) % w = c := by
  rw [Nat.add_mod, hb, Nat.zero_add, Nat.mod_mod, Nat.mod_eq_of_lt hc]
theorem cV_row {a : Nat → Nat} {b p v : Nat} (h4 : w ≤ 4) (hv : v ≠ 0) (h : ∀ c, c < 4 → dg p c = if w ≤ c then 0 else a (b + c)) : cV a v (b + w) = cV a v b + hmy p v := by
  have h0 := h 0 (by decide)
  have h1 := h 1 (by decide)
  have h2 := h 2 (by decide)
  have h3 := h 3 (by decide)
  unfold hmy
  rw [h0, h1, h2, h3]
  obtain rfl | rfl | rfl | rfl | rfl : w = 0 ∨ w = 1 ∨ w = 2 ∨ w = 3 ∨ w = 4 := by omega
  · simp [hv.symm]
  · rw [cV_s]
    simp [hv.symm]
  · rw [show b + 2 = (b + 1) + 1 from rfl, cV_s, cV_s]
    simp [hv.symm]
    omega
  · rw [show b + 3 = ((b + 1) + 1) + 1 from rfl, cV_s, cV_s, cV_s]
    simp [hv.symm]
    omega
  · rw [show b + 4 = (((b + 1) + 1) + 1) + 1 from rfl, cV_s, cV_s, cV_s, cV_s]
    simp
    omega
theorem pX_row {b p' m' s' : Nat} (h1 : 1 ≤ w) (h4 : w ≤ 4) (hb : b % w = 0) (h : pX A B bad w (b + w) p' m' s') : ∃ p m s, pX A B bad w b p m s ∧ rwO A B bad w b p' ∧ bsO bad p' p ∧ m' = m + hmy p' 1 ∧ s' = s + hmy p' 2 := by
  obtain ⟨a, hl, hp, hd, hm, hs⟩ := h
  have hd' : ∀ c, c < 4 → dg p' c = if w ≤ c then 0 else a (b + c) := fun c hc => by rw [hd c hc, eD_row h1 h4 hb]
  have he : ∀ c, c < 4 → eD w a b c ≤ 2 := fun c hc => eD_le h1 h4 (fun j hj => (hl j (by omega)).1)
  have hen := enc_dg he
  refine ⟨enc (fun c => eD w a b c), cV a 1 b, cV a 2 b, ⟨a, fun j hj => hl j (by omega), enc_lt he, hen, rfl, rfl⟩, ⟨hp, fun c hc => ⟨?_, fun hbad => ?_⟩⟩, fun hbad c hc => ?_, ?_, ?_⟩
  · rw [hd' c hc]
    by_cases q : w ≤ c
    · rw [if_pos q]; exact Or.inl rfl
    · rw [if_neg q]
      obtain ⟨f1, f2, f3, -⟩ := hl (b + c) (by omega)
      exact Or.inr ⟨by omega, f2, f3⟩
  · by_cases q0 : c = 0
    · exact Or.inl q0
    · right
      rw [hd' c hc, hd' (c - 1) (by omega)]
      by_cases q : w ≤ c
      · rw [if_pos q]
        by_cases q2 : w ≤ c - 1
        · rw [if_pos q2]; omega
        · rw [if_neg q2]
          have := (hl (b + (c - 1)) (by omega)).1
          omega
      · rw [if_neg q, if_neg (by omega)]
        obtain ⟨-, -, -, f4⟩ := hl (b + c) (by omega)
        have := (f4 hbad).1 (by rw [md_add hb (by omega)]; exact q0)
        rw [show b + c - 1 = b + (c - 1) by omega] at this
        exact this
  · rw [hen c hc, eD_abv h1 h4 hb, hd' c hc]
    by_cases q : w ≤ c
    · rw [if_pos q, if_pos q]; omega
    · rw [if_neg q, if_neg q]
      obtain ⟨f1, -, -, f4⟩ := hl (b + c) (by omega)
      by_cases q2 : w ≤ b
      · rw [if_pos q2]
        have := (f4 hbad).2 (by omega)
        rw [show b + c - w = b - w + c by omega] at this
        exact this
      · rw [if_neg q2]; omega
  · rw [← hm, cV_row h4 (by decide) hd']
  · rw [← hs, cV_row h4 (by decide) hd']
theorem pX_row' {b p p' m s : Nat} (h1 : 1 ≤ w) (h4 : w ≤ 4) (hb : b % w = 0) (h : pX A B bad w b p m s) (hr : rwO A B bad w b p') (hs : bsO bad p' p) : pX A B bad w (b + w) p' (m + hmy p' 1) (s + hmy p' 2) := by
  obtain ⟨a, hl, hp, hd, hm, hs2⟩ := h
  obtain ⟨hp', hr⟩ := hr
  let a' : Nat → Nat := fun j => if j < b then a j else dg p' (j - b)
  have ha : ∀ j, j < b → a' j = a j := fun j hj => if_pos hj
  have hn : ∀ c, a' (b + c) = dg p' c := fun c => by
    show (if _ then _ else _) = _
    rw [if_neg (by omega)]
    congr 1
    omega
  have hd' : ∀ c, c < 4 → dg p' c = if w ≤ c then 0 else a' (b + c) := fun c hc => by
    by_cases q : w ≤ c
    · rw [if_pos q]
      rcases (hr c hc).1 with h | h
      · exact h
      · omega
    · rw [if_neg q, hn]
  refine ⟨a', fun j hj => ?_, hp', fun c hc => by rw [eD_row h1 h4 hb]; exact hd' c hc, ?_, ?_⟩
  · by_cases q : j < b
    · exact lgl_cg h1 (fun i hi => (ha i (by omega)).symm) (hl j q)
    · obtain ⟨c, rfl⟩ : ∃ c, j = b + c := ⟨j - b, by omega⟩
      have hcw : c < w := by omega
      obtain ⟨r1, r2⟩ := hr c (by omega)
      unfold lgl
      rw [hn]
      refine ⟨dg_le _ _, fun h => ?_, fun h => ?_, fun hbad => ⟨fun h => ?_, fun h => ?_⟩⟩
      · rcases r1 with h9 | h9
        · omega
        · exact h9.2.1 h
      · rcases r1 with h9 | h9
        · omega
        · exact h9.2.2 h
      · rw [md_add hb hcw] at h
        rcases r2 hbad with h9 | h9
        · exact absurd h9 h
        · rw [show b + c - 1 = b + (c - 1) by omega, hn]
          exact h9
      · have h9 := hs hbad c (by omega)
        rw [hd c (by omega), eD_abv h1 h4 hb, if_neg (by omega)] at h9
        by_cases q2 : w ≤ b
        · rw [if_pos q2] at h9
          rw [show b + c - w = b - w + c by omega, ha _ (by omega)]
          exact h9
        · have hb0 : b = 0 := by
            have := Nat.mod_eq_of_lt (show b < w by omega)
            omega
          omega
  · rw [cV_row h4 (by decide) hd', cV_cg ha, hm]
  · rw [cV_row h4 (by decide) hd', cV_cg ha, hs2]
end
