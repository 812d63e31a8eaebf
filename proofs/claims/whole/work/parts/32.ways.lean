/-! ===== ways: the two sides' numbers are the same ===== -/
section
variable {adj : Int → Int → Bool} {n : Nat}
theorem nbr_cg {E F : Int → Bool} (h : ∀ k : Int, 0 ≤ k → k < n → E k = F k) (k : Int) : nbr adj n E k = nbr adj n F k := by
  rw [Bool.eq_iff_iff, nbr_iff, nbr_iff]
  constructor
  · rintro ⟨j, a, b, c, d⟩; exact ⟨j, a, b, by rw [← h j a b]; exact c, d⟩
  · rintro ⟨j, a, b, c, d⟩; exact ⟨j, a, b, by rw [h j a b]; exact c, d⟩
theorem lev_cg {src op src' op' : Int → Bool} (h : ∀ k : Int, 0 ≤ k → k < n → src k = src' k ∧ op k = op' k) : ∀ (i : Nat) (k : Int), 0 ≤ k → k < n → (lev adj n src op i).1 k = (lev adj n src' op' i).1 k ∧ (lev adj n src op i).2 k = (lev adj n src' op' i).2 k := by
  intro i
  induction i with
  | zero =>
    intro k h0 h1
    obtain ⟨a, b⟩ := h k h0 h1
    show (src k && op k) = (src' k && op' k) ∧ (src k && op k) = (src' k && op' k)
    rw [a, b]
    exact ⟨rfl, rfl⟩
  | succ i ih =>
    intro k h0 h1
    have e1 := nbr_cg (adj := adj) (n := n) (fun j a b => (ih j a b).1) k
    obtain ⟨a, b⟩ := ih k h0 h1
    obtain ⟨c, d⟩ := h k h0 h1
    show (nbr adj n (lev adj n src op i).1 k && op k && !((lev adj n src op i).2 k)) = (nbr adj n (lev adj n src' op' i).1 k && op' k && !((lev adj n src' op' i).2 k)) ∧ ((lev adj n src op i).2 k || (nbr adj n (lev adj n src op i).1 k && op k && !((lev adj n src op i).2 k))) = ((lev adj n src' op' i).2 k || (nbr adj n (lev adj n src' op' i).1 k && op' k && !((lev adj n src' op' i).2 k)))
    rw [e1, b, d]
    exact ⟨rfl, rfl⟩
theorem zfst_cg {p q : Nat → Bool} (h : ∀ k, p k = q k) (m : Nat) : zfst p m = zfst q m := by
  have : p = q := funext h
  rw [this]
theorem wl_cg {src op src' op' : Int → Bool} (h : ∀ k : Int, 0 ≤ k → k < n → src k = src' k ∧ op k = op' k) {cell : Int} (h0 : 0 ≤ cell) (h1 : cell < n) : wl adj n src op cell = wl adj n src' op' cell := by
  unfold wl
  rw [zfst_cg (fun i => (lev_cg h i cell h0 h1).1) 24]
/-- reached through O from F -/
def pr (adj : Int → Int → Bool) (n : Nat) (O F : Int → Bool) : Nat → Int → Prop
  | 0, k => 0 ≤ k ∧ k < n ∧ F k = true
  | t + 1, k => ∃ j, pr adj n O F t j ∧ 0 ≤ k ∧ k < n ∧ adj j k = true ∧ O k = true
theorem pr_in {O F : Int → Bool} {t : Nat} {k : Int} (h : pr adj n O F t k) : 0 ≤ k ∧ k < n := by
  cases t with
  | zero => exact ⟨h.1, h.2.1⟩
  | succ t => obtain ⟨j, -, a, b, -⟩ := h; exact ⟨a, b⟩
theorem flo_pr {O F : Int → Bool} : ∀ (t : Nat) (k : Int), 0 ≤ k → k < n → (flo adj n O F t k = true ↔ ∃ t', t' ≤ t ∧ pr adj n O F t' k) := by
  intro t
  induction t with
  | zero =>
    intro k h0 h1
    constructor
    · intro h; exact ⟨0, Nat.le_refl 0, h0, h1, h⟩
    · rintro ⟨t', ht, h⟩
      obtain rfl : t' = 0 := by omega
      exact h.2.2
  | succ t ih =>
    intro k h0 h1
    show (flo adj n O F t k || (nbr adj n (flo adj n O F t) k && O k)) = true ↔ _
    rw [Bool.or_eq_true, Bool.and_eq_true, ih k h0 h1, nbr_iff]
    constructor
    · rintro (⟨t', a, b⟩ | ⟨⟨j, j0, j1, a, b⟩, c⟩)
      · exact ⟨t', by omega, b⟩
      · obtain ⟨t', e, f⟩ := (ih j j0 j1).mp a
        exact ⟨t' + 1, by omega, j, f, h0, h1, b, c⟩
    · rintro ⟨t', a, b⟩
      cases t' with
      | zero => exact Or.inl ⟨0, by omega, b⟩
      | succ t' =>
        obtain ⟨j, c, -, -, d, e⟩ := b
        obtain ⟨j0, j1⟩ := pr_in c
        exact Or.inr ⟨⟨j, j0, j1, (ih j j0 j1).mpr ⟨t', by omega, c⟩, d⟩, e⟩
theorem pr_rt {O F : Int → Bool} : ∀ (t : Nat) (k : Int), pr adj n O F t k → rt adj n F (fun k => O k || F k) t k := by
  intro t
  induction t with
  | zero => intro k h; exact rt_0.mpr ⟨h.1, h.2.1, by rw [h.2.2, Bool.or_true]; rfl⟩
  | succ t ih =>
    intro k h
    obtain ⟨j, a, b, c, d, e⟩ := h
    exact rt_s.mpr ⟨j, ih j a, b, c, d, by rw [e]; rfl⟩
theorem rt_pr {O F : Int → Bool} : ∀ (t : Nat) (k : Int), rt adj n F (fun k => O k || F k) t k → ∃ t', t' ≤ t ∧ pr adj n O F t' k := by
  intro t
  induction t with
  | zero =>
    intro k h
    obtain ⟨a, b, c⟩ := rt_0.mp h
    rw [Bool.and_eq_true] at c
    exact ⟨0, Nat.le_refl 0, a, b, c.1⟩
  | succ t ih =>
    intro k h
    obtain ⟨j, a, b, c, d, e⟩ := rt_s.mp h
    obtain ⟨t', f, g⟩ := ih j a
    cases hF : F k with
    | true => exact ⟨0, by omega, b, c, hF⟩
    | false =>
      rw [hF, Bool.or_false] at e
      exact ⟨t' + 1, by omega, j, g, b, c, d, e⟩
theorem nmin {P : Nat → Prop} : ∀ (t : Nat), P t → ∃ t0, t0 ≤ t ∧ P t0 ∧ ∀ t', t' < t0 → ¬ P t' := by
  intro t
  induction t using Nat.strongRecOn with
  | ind t ih =>
    intro h
    by_cases hx : ∃ t', t' < t ∧ P t'
    · obtain ⟨t', ht', h9⟩ := hx
      obtain ⟨t0, a, b, c⟩ := ih t' ht' h9
      exact ⟨t0, by omega, b, c⟩
    · exact ⟨t, Nat.le_refl t, h, fun t' ht' h9 => hx ⟨t', ht', h9⟩⟩
/-- 24 steps are enough -/
theorem flo_all (hn : n ≤ 24) {O F : Int → Bool} {k : Int} (h0 : 0 ≤ k) (h1 : k < n) : flo adj n O F 24 k = true ↔ ∃ t, pr adj n O F t k := by
  rw [flo_pr 24 k h0 h1]
  constructor
  · rintro ⟨t, -, h⟩; exact ⟨t, h⟩
  · rintro ⟨t, h⟩
    obtain ⟨t0, a, b, c⟩ := nmin (P := fun t => rt adj n F (fun k => O k || F k) t k) t (pr_rt t k h)
    have := lev_bd b c
    obtain ⟨t', d, e⟩ := rt_pr t0 k b
    exact ⟨t', by omega, e⟩
theorem wl_rt (hn : n ≤ 24) {src op : Int → Bool} {k : Int} (h0 : 0 ≤ k) (h1 : k < n) : wl adj n src op k ≠ -1 ↔ ∃ t, rt adj n src op t k := by
  obtain ⟨a, b⟩ := wl_least (adj := adj) (src := src) (op := op) hn k h0 h1
  constructor
  · intro h
    obtain ⟨t, ht⟩ := a h
    have := lc_y t k _ ht
    exact ⟨t, by unfold rt; rw [← this]; exact ht⟩
  · rintro ⟨t, ht⟩
    exact (b t _ ht).1
theorem wl_op (hn : n ≤ 24) {src op : Int → Bool} {k : Int} (h0 : 0 ≤ k) (h1 : k < n) (ho : op k = false) : wl adj n src op k = -1 := by
  apply Classical.byContradiction
  intro h
  obtain ⟨t, ht⟩ := (wl_rt hn h0 h1).mp h
  cases t with
  | zero =>
    have := (rt_0.mp ht).2.2
    rw [ho, Bool.and_false] at this
    cases this
  | succ t =>
    obtain ⟨j, -, -, -, -, e⟩ := rt_s.mp ht
    rw [ho] at e
    cases e
theorem wl_bd {src op : Int → Bool} (k : Int) : wl adj n src op k = -1 ∨ (1 ≤ wl adj n src op k ∧ wl adj n src op k ≤ 24) := by
  unfold wl
  split
  · right; omega
  · left; rfl
theorem flo_wl (hn : n ≤ 24) {src op : Int → Bool} {k : Int} (h0 : 0 ≤ k) (h1 : k < n) : flo adj n op (fun k => src k && op k) 24 k = decide (wl adj n src op k ≠ -1) := by
  rw [Bool.eq_iff_iff, flo_all hn h0 h1, decide_eq_true_eq, wl_rt hn h0 h1]
  have key : ∀ (t : Nat) (k : Int), pr adj n op (fun k => src k && op k) t k ↔ rt adj n src op t k := by
    intro t
    induction t with
    | zero => intro k; rw [rt_0]; rfl
    | succ t ih =>
      intro k
      rw [rt_s]
      constructor
      · rintro ⟨j, a, b⟩; exact ⟨j, (ih j).mp a, b⟩
      · rintro ⟨j, a, b⟩; exact ⟨j, (ih j).mpr a, b⟩
  constructor
  · rintro ⟨t, h⟩; exact ⟨t, (key t k).mp h⟩
  · rintro ⟨t, h⟩; exact ⟨t, (key t k).mpr h⟩
/-! costs over blocked cells -/
section
variable {D O : Int → Bool} {c0 v : Int → Int}
theorem ob_iff (hn : n ≤ 24) (hv : ∀ k : Int, 0 ≤ k → k < (n : Int) → v k = if O k = true then 0 else 1) (hc : ∀ k : Int, 0 ≤ k → k < (n : Int) → c0 k = if D k = true then v k else -1) : ∀ (j : Nat) (k : Int), 0 ≤ k → k < n → (obR adj n D O j k = true ↔ ∃ t y, rc adj n c0 v t k y ∧ y ≤ j) := by
  have hv0 : ∀ k : Int, 0 ≤ k → k < (n : Int) → 0 ≤ v k ∧ v k ≤ 1 := by
    intro k h0 h1
    rw [hv k h0 h1]
    split <;> omega
  have hrc : ∀ (t : Nat) (k y : Int), rc adj n c0 v t k y → 0 ≤ y := by
    intro t
    induction t with
    | zero =>
      intro k y h
      obtain ⟨h0, h1, h2, rfl⟩ := h
      rw [hc k h0 h1] at h2 ⊢
      split
      · exact (hv0 k h0 h1).1
      · rename_i h9; rw [if_neg h9] at h2; exact absurd rfl h2
    | succ t ih =>
      intro k y h
      obtain ⟨i, z, a, h0, h1, -, -, rfl⟩ := h
      have := ih i z a
      have := hv0 k h0 h1
      omega
  intro j
  induction j with
  | zero =>
    intro k h0 h1
    show flo adj n O (fun k => D k && O k) 24 k = true ↔ _
    rw [flo_all hn h0 h1]
    constructor
    · rintro ⟨t, h⟩
      have key : ∀ (t : Nat) (k : Int), pr adj n O (fun k => D k && O k) t k → rc adj n c0 v t k 0 := by
        intro t
        induction t with
        | zero =>
          intro k h
          obtain ⟨a, b, c⟩ := h
          rw [Bool.and_eq_true] at c
          have e : c0 k = 0 := by rw [hc k a b, if_pos c.1, hv k a b, if_pos c.2]
          exact ⟨a, b, by rw [e]; decide, e.symm⟩
        | succ t ih =>
          intro k h
          obtain ⟨i, a, b, c, d, e⟩ := h
          have e1 : v k = 0 := by rw [hv k b c, if_pos e]
          exact ⟨i, 0, ih i a, b, c, d, by rw [e1]; decide, by rw [e1]; rfl⟩
      exact ⟨t, 0, key t k h, Int.le_refl 0⟩
    · rintro ⟨t, y, h, hy⟩
      have key : ∀ (t : Nat) (k y : Int), rc adj n c0 v t k y → y ≤ 0 → pr adj n O (fun k => D k && O k) t k := by
        intro t
        induction t with
        | zero =>
          intro k y h hy
          obtain ⟨a, b, c, rfl⟩ := h
          refine ⟨a, b, ?_⟩
          rw [hc k a b] at c hy
          cases hD : D k with
          | false => rw [hD] at c; exact absurd rfl c
          | true =>
            rw [hD, if_pos rfl, hv k a b] at hy
            cases hO : O k with
            | false => rw [hO, if_neg (by decide)] at hy; omega
            | true => simp only [hD, hO]; rfl
        | succ t ih =>
          intro k y h hy
          obtain ⟨i, z, a, b, c, d, e, rfl⟩ := h
          have h1 := hrc t i z a
          have h2 := hv0 k b c
          refine ⟨i, ih i z a (by omega), b, c, d, ?_⟩
          cases hO : O k with
          | false => rw [hv k b c, hO, if_neg (by decide)] at hy; omega
          | true => rfl
      exact ⟨t, key t k y h hy⟩
  | succ j ih =>
    intro k h0 h1
    show flo adj n O (fun k => obR adj n D O j k || (nbr adj n (obR adj n D O j) k || D k)) 24 k = true ↔ _
    rw [flo_all hn h0 h1]
    constructor
    · rintro ⟨t, h⟩
      have key : ∀ (t : Nat) (k : Int), pr adj n O (fun k => obR adj n D O j k || (nbr adj n (obR adj n D O j) k || D k)) t k → ∃ t y, rc adj n c0 v t k y ∧ y ≤ (j : Int) + 1 := by
        intro t
        induction t with
        | zero =>
          intro k h
          obtain ⟨a, b, c⟩ := h
          rw [Bool.or_eq_true, Bool.or_eq_true, nbr_iff] at c
          have hvk := hv0 k a b
          rcases c with c | ⟨i, i0, i1, c, d⟩ | c
          · obtain ⟨t, y, e, f⟩ := (ih k a b).mp c
            exact ⟨t, y, e, by omega⟩
          · obtain ⟨t, y, e, f⟩ := (ih i i0 i1).mp c
            exact ⟨t + 1, y + v k, ⟨i, y, e, a, b, d, by omega, rfl⟩, by omega⟩
          · have e : c0 k = v k := by rw [hc k a b, if_pos c]
            exact ⟨0, c0 k, ⟨a, b, by rw [e]; omega, rfl⟩, by rw [e]; omega⟩
        | succ t ih2 =>
          intro k h
          obtain ⟨i, a, b, c, d, e⟩ := h
          obtain ⟨t', y, f, g⟩ := ih2 i a
          have e1 : v k = 0 := by rw [hv k b c, if_pos e]
          exact ⟨t' + 1, y + v k, ⟨i, y, f, b, c, d, by rw [e1]; decide, rfl⟩, by rw [e1]; omega⟩
      obtain ⟨t', y, a, b⟩ := key t k h
      exact ⟨t', y, a, by omega⟩
    · rintro ⟨t, y, h, hy⟩
      have key : ∀ (t : Nat) (k y : Int), rc adj n c0 v t k y → y ≤ (j : Int) + 1 → ∃ t, pr adj n O (fun k => obR adj n D O j k || (nbr adj n (obR adj n D O j) k || D k)) t k := by
        intro t
        induction t with
        | zero =>
          intro k y h hy
          obtain ⟨a, b, c, rfl⟩ := h
          refine ⟨0, a, b, ?_⟩
          rw [hc k a b] at c
          cases hD : D k with
          | false => rw [hD] at c; exact absurd rfl c
          | true => simp only [hD, Bool.or_true]
        | succ t ih2 =>
          intro k y h hy
          obtain ⟨i, z, a, b, c, d, e, rfl⟩ := h
          obtain ⟨i0, i1⟩ := rc_in a
          have h1 := hrc t i z a
          have h2 := hv k b c
          cases hO : O k with
          | true =>
            rw [hO, if_pos rfl] at h2
            obtain ⟨t', f⟩ := ih2 i z a (by omega)
            exact ⟨t' + 1, i, f, b, c, d, hO⟩
          | false =>
            rw [hO, if_neg (by decide)] at h2
            have f := (ih i i0 i1).mpr ⟨t, z, a, by omega⟩
            refine ⟨0, b, c, ?_⟩
            have g : nbr adj n (obR adj n D O j) k = true := nbr_iff.mpr ⟨i, i0, i1, f, d⟩
            simp only [g, Bool.true_or, Bool.or_true]
      exact key t k y h (by omega)
theorem ob_least (hn : n ≤ 24) (hv : ∀ k : Int, 0 ≤ k → k < (n : Int) → v k = if O k = true then 0 else 1) (hc : ∀ k : Int, 0 ≤ k → k < (n : Int) → c0 k = if D k = true then v k else -1) {x : Int → Int} (hx : least adj n c0 v x) {k : Int} (h0 : 0 ≤ k) (h1 : k < n) (hb : -1 ≤ x k ∧ x k ≤ 24) : obC adj n D O k = x k := by
  obtain ⟨a, b⟩ := hx k h0 h1
  have hI := fun j => ob_iff (adj := adj) hn hv hc j k h0 h1
  have hle := zfst_le (fun j => obR adj n D O j k) 25
  have hy := zfst_yes (fun j => obR adj n D O j k) 25
  have hno := zfst_no (fun j => obR adj n D O j k) 25
  unfold obC
  by_cases hm : zfst (fun j => obR adj n D O j k) 25 < 25
  · rw [if_pos hm]
    obtain ⟨t, y, c, d⟩ := (hI _).mp (hy hm)
    obtain ⟨e, f⟩ := b t y c
    obtain ⟨t', g⟩ := a e
    by_cases q : x k < zfst (fun j => obR adj n D O j k) 25
    · have := hno (x k).toNat (by omega)
      try simp only at this
      rw [← Bool.not_eq_true, hI] at this
      exact absurd ⟨t', x k, g, by omega⟩ this
    · omega
  · rw [if_neg hm]
    apply Classical.byContradiction
    intro hne
    obtain ⟨t', g⟩ := a (fun h => hne h.symm)
    have := hno (x k).toNat (by omega)
    try simp only at this
    rw [← Bool.not_eq_true, hI] at this
    exact this ⟨t', x k, g, by omega⟩
end
/-! all costs one more -/
theorem rc_up {c0 c1 v : Int → Int} (h0 : ∀ k : Int, 0 ≤ k → k < (n : Int) → -1 ≤ c0 k) (h : ∀ k : Int, 0 ≤ k → k < (n : Int) → c1 k = if c0 k = -1 then -1 else c0 k + 1) : ∀ (t : Nat) (k y : Int), rc adj n c0 v t k y ↔ rc adj n c1 v t k (y + 1) := by
  intro t
  induction t with
  | zero =>
    intro k y
    constructor
    · rintro ⟨a, b, c, d⟩
      have e := h k a b
      have e0 := h0 k a b
      rw [if_neg c] at e
      exact ⟨a, b, by omega, by omega⟩
    · rintro ⟨a, b, c, d⟩
      have e := h k a b
      by_cases q : c0 k = -1
      · rw [if_pos q] at e; exact absurd e c
      · rw [if_neg q] at e
        exact ⟨a, b, q, by omega⟩
  | succ t ih =>
    intro k y
    constructor
    · rintro ⟨j, z, a, b, c, d, e, f⟩
      exact ⟨j, z + 1, (ih j z).mp a, b, c, d, e, by omega⟩
    · rintro ⟨j, z, a, b, c, d, e, f⟩
      refine ⟨j, z - 1, (ih j (z - 1)).mpr ?_, b, c, d, e, by omega⟩
      rw [show z - 1 + 1 = z by omega]
      exact a
theorem least_up {c0 c1 v x : Int → Int} (hv : ∀ k : Int, 0 ≤ k → k < (n : Int) → -1 ≤ v k) (h0 : ∀ k : Int, 0 ≤ k → k < (n : Int) → -1 ≤ c0 k) (h : ∀ k : Int, 0 ≤ k → k < (n : Int) → c1 k = if c0 k = -1 then -1 else c0 k + 1) (hx : least adj n c0 v x) (hb : ∀ k : Int, 0 ≤ k → k < (n : Int) → -1 ≤ x k) : least adj n c1 v (fun k => if x k = -1 then -1 else x k + 1) := by
  intro k k0 k1
  obtain ⟨a, b⟩ := hx k k0 k1
  have hbk := hb k k0 k1
  try simp only
  constructor
  · intro hne
    by_cases q : x k = -1
    · rw [if_pos q] at hne; exact absurd rfl hne
    · rw [if_neg q]
      obtain ⟨t, ht⟩ := a q
      exact ⟨t, (rc_up h0 h t k (x k)).mp ht⟩
  · intro t y hy
    have hy' : rc adj n c0 v t k (y - 1) := by
      rw [rc_up h0 h t k (y - 1), show y - 1 + 1 = y by omega]
      exact hy
    obtain ⟨c, d⟩ := b t _ hy'
    rw [if_neg c]
    exact ⟨by omega, by omega⟩
end
