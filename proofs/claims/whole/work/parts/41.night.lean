/-! ===== a night ===== -/
/-- the smell for a pallet at a, by the first n of the queue -/
def smK (s : Int → Int) (own : Int) : Nat → Int
  | 0 => 0
  | n + 1 => if s (72 + 7 * s (392 + (n : Int))) ≠ own ∧ smK s own n < s (36 + 6 * s (72 + 7 * s (392 + (n : Int))) + 4) - s (36 + 6 * own + 5) then s (36 + 6 * s (72 + 7 * s (392 + (n : Int))) + 4) - s (36 + 6 * own + 5) else smK s own n
def smF (s : Int → Int) (own : Int) : Int := smK s own (s 8).toNat
/-- the temperature at a place -/
def waF (s : Int → Int) (x : Int) : Int := if x = -1 then 10 * s 3 else 10 * s (12 + 8 * (x / 24) + 3) + s (12 + 8 * (x / 24) + 4)
def htF (s : Int → Int) (g t : Int) : Int := max 0 (t - 10 * s (36 + 6 * g + 2)) + max 0 (10 * s (36 + 6 * g + 1) - t)
/-- the chambers before c have had their night -/
def niC (s : Int → Int) (n : Int) : Int → Int := fun j => if 12 ≤ j ∧ j < 12 + 8 * n ∧ (j - 12) % 8 = 4 then (s j + 4 * s (j + 1)) / 2 else if 12 ≤ j ∧ j < 12 + 8 * n ∧ (j - 12) % 8 = 5 then 0 else s j
/-- the pallets before n have had their night -/
def niP (s : Int → Int) (n : Int) : Int → Int := fun j => if 72 ≤ j ∧ j < 72 + 7 * n ∧ (j - 72) % 7 = 4 ∧ s (j - 2) ≤ 1 then s j + htF s (s (j - 4)) (waF s (s (j - 1))) else if 72 ≤ j ∧ j < 72 + 7 * n ∧ (j - 72) % 7 = 5 ∧ s (j - 3) = 0 then s j + smF s (s (j - 5)) else s j
def fNight (s : Int → Int) : Int → Int := sset (niP (niC s (s 4)) (s 6)) 0 (s 0 + 1)
theorem niC_ne {s : Int → Int} {n j : Int} (h : ¬ (12 ≤ j ∧ j < 12 + 8 * n ∧ ((j - 12) % 8 = 4 ∨ (j - 12) % 8 = 5))) : niC s n j = s j := by
  unfold niC
  rw [if_neg (by omega), if_neg (by omega)]
theorem niC_w {s : Int → Int} {n c : Int} (h0 : 0 ≤ c) (h1 : c < n) : niC s n (12 + 8 * c + 4) = (s (12 + 8 * c + 4) + 4 * s (12 + 8 * c + 5)) / 2 := by
  unfold niC
  rw [if_pos (by omega), show 12 + 8 * c + 4 + 1 = 12 + 8 * c + 5 by omega]
theorem niC_o {s : Int → Int} {n c : Int} (h0 : 0 ≤ c) (h1 : c < n) : niC s n (12 + 8 * c + 5) = 0 := by
  unfold niC
  rw [if_neg (by omega), if_pos (by omega)]
theorem niP_ne {s : Int → Int} {n j : Int} (h : ¬ (72 ≤ j ∧ j < 72 + 7 * n ∧ ((j - 72) % 7 = 4 ∨ (j - 72) % 7 = 5))) : niP s n j = s j := by
  unfold niP
  rw [if_neg (by omega), if_neg (by omega)]
theorem niP_h {s : Int → Int} {n p : Int} (h0 : 0 ≤ p) (h1 : p < n) : niP s n (72 + 7 * p + 4) = if s (72 + 7 * p + 2) ≤ 1 then s (72 + 7 * p + 4) + htF s (s (72 + 7 * p)) (waF s (s (72 + 7 * p + 3))) else s (72 + 7 * p + 4) := by
  unfold niP
  rw [show 72 + 7 * p + 4 - 2 = 72 + 7 * p + 2 by omega, show 72 + 7 * p + 4 - 4 = 72 + 7 * p by omega, show 72 + 7 * p + 4 - 1 = 72 + 7 * p + 3 by omega]
  by_cases h : s (72 + 7 * p + 2) ≤ 1
  · rw [if_pos ⟨by omega, by omega, by omega, h⟩, if_pos h]
  · rw [if_neg (fun h9 => h h9.2.2.2), if_neg (by omega), if_neg h]
theorem niP_t {s : Int → Int} {n p : Int} (h0 : 0 ≤ p) (h1 : p < n) : niP s n (72 + 7 * p + 5) = if s (72 + 7 * p + 2) = 0 then s (72 + 7 * p + 5) + smF s (s (72 + 7 * p)) else s (72 + 7 * p + 5) := by
  unfold niP
  rw [if_neg (by omega), show 72 + 7 * p + 5 - 3 = 72 + 7 * p + 2 by omega, show 72 + 7 * p + 5 - 5 = 72 + 7 * p by omega]
  by_cases h : s (72 + 7 * p + 2) = 0
  · rw [if_pos ⟨by omega, by omega, by omega, h⟩, if_pos h]
  · rw [if_neg (fun h9 => h h9.2.2.2), if_neg h]
theorem niC_0 {s : Int → Int} : niC s 0 = s := by
  funext j
  exact niC_ne (by omega)
theorem niP_0 {s : Int → Int} : niP s 0 = s := by
  funext j
  exact niP_ne (by omega)
theorem niC_s {s : Int → Int} {c : Int} (h0 : 0 ≤ c) : sset (sset (niC s c) (12 + 8 * c + 4) ((s (12 + 8 * c + 4) + 4 * s (12 + 8 * c + 5)) / 2)) (12 + 8 * c + 5) 0 = niC s (c + 1) := by
  funext j
  by_cases h5 : j = 12 + 8 * c + 5
  · rw [h5, sset_eq rfl, niC_o h0 (by omega)]
  · rw [sset_ne h5]
    by_cases h4 : j = 12 + 8 * c + 4
    · rw [h4, sset_eq rfl, niC_w h0 (by omega)]
    · rw [sset_ne h4]
      unfold niC
      by_cases q : 12 ≤ j ∧ j < 12 + 8 * c ∧ (j - 12) % 8 = 4
      · rw [if_pos q, if_pos (by omega)]
      · rw [if_neg q, if_neg (show ¬ (12 ≤ j ∧ j < 12 + 8 * (c + 1) ∧ (j - 12) % 8 = 4) by omega)]
        by_cases q2 : 12 ≤ j ∧ j < 12 + 8 * c ∧ (j - 12) % 8 = 5
        · rw [if_pos q2, if_pos (by omega)]
        · rw [if_neg q2, if_neg (by omega)]
/-- pallets behind: nothing of them is changed yet -/
theorem niP_s0 {s : Int → Int} {p : Int} (h0 : 0 ≤ p) (h : ¬ s (72 + 7 * p + 2) ≤ 1) : niP s p = niP s (p + 1) := by
  funext j
  by_cases h5 : j = 72 + 7 * p + 5
  · rw [h5, niP_t (n := p + 1) h0 (by omega), if_neg (by omega), niP_ne (by omega)]
  · by_cases h4 : j = 72 + 7 * p + 4
    · rw [h4, niP_h (n := p + 1) h0 (by omega), if_neg h, niP_ne (by omega)]
    · unfold niP
      by_cases q : 72 ≤ j ∧ j < 72 + 7 * p ∧ (j - 72) % 7 = 4 ∧ s (j - 2) ≤ 1
      · rw [if_pos q, if_pos (by omega)]
      · rw [if_neg q, if_neg (show ¬ (72 ≤ j ∧ j < 72 + 7 * (p + 1) ∧ (j - 72) % 7 = 4 ∧ s (j - 2) ≤ 1) by omega)]
        by_cases q2 : 72 ≤ j ∧ j < 72 + 7 * p ∧ (j - 72) % 7 = 5 ∧ s (j - 3) = 0
        · rw [if_pos q2, if_pos (by omega)]
        · rw [if_neg q2, if_neg (by omega)]
theorem niP_s1 {s : Int → Int} {p u v : Int} (h0 : 0 ≤ p) (h : s (72 + 7 * p + 2) ≤ 1) (hu : u = s (72 + 7 * p + 4) + htF s (s (72 + 7 * p)) (waF s (s (72 + 7 * p + 3)))) (hv : v = if s (72 + 7 * p + 2) = 0 then s (72 + 7 * p + 5) + smF s (s (72 + 7 * p)) else s (72 + 7 * p + 5)) : sset (sset (niP s p) (72 + 7 * p + 4) u) (72 + 7 * p + 5) v = niP s (p + 1) := by
  funext j
  by_cases h5 : j = 72 + 7 * p + 5
  · rw [h5, niP_t h0 (by omega), sset_eq rfl, hv]
  · rw [sset_ne h5]
    by_cases h4 : j = 72 + 7 * p + 4
    · rw [h4, niP_h h0 (by omega), if_pos h, sset_eq rfl, hu]
    · rw [sset_ne h4]
      unfold niP
      by_cases q : 72 ≤ j ∧ j < 72 + 7 * p ∧ (j - 72) % 7 = 4 ∧ s (j - 2) ≤ 1
      · rw [if_pos q, if_pos (by omega)]
      · rw [if_neg q, if_neg (show ¬ (72 ≤ j ∧ j < 72 + 7 * (p + 1) ∧ (j - 72) % 7 = 4 ∧ s (j - 2) ≤ 1) by omega)]
        by_cases q2 : 72 ≤ j ∧ j < 72 + 7 * p ∧ (j - 72) % 7 = 5 ∧ s (j - 3) = 0
        · rw [if_pos q2, if_pos (by omega)]
        · rw [if_neg q2, if_neg (by omega)]
/-! bounds -/
section
variable {s : Int → Int} {D k : Int}
theorem smK_bd (hK : okK s) (hQ : okQ s) (hP : okP s) {own : Int} (o0 : 0 ≤ own) (o1 : own < s 5) : ∀ n : Nat, (n : Int) ≤ s 8 → 0 ≤ smK s own n ∧ smK s own n ≤ 9 := by
  intro n
  induction n with
  | zero => intro _; show (0 : Int) ≤ 0 ∧ (0 : Int) ≤ 9; omega
  | succ n ih =>
    intro hn
    have h1 := ih (by omega)
    obtain ⟨q1, q2, -⟩ := hQ.1 n (by omega) (by omega)
    obtain ⟨p1, p2, -⟩ := hP _ q1 q2
    obtain ⟨-, -, -, -, -, g6, g7, g8, g9, -⟩ := hK.2.2.1 _ p1 p2
    obtain ⟨-, -, -, -, -, e6, e7, e8, e9, -⟩ := hK.2.2.1 _ o0 o1
    unfold smK
    split <;> omega
theorem waF_bd (hK : okK s) (hT : okT k s) {x : Int} (hx : x = -1 ∨ (0 ≤ x ∧ x / 24 < s 4)) (hk0 : 0 ≤ k) (hk : k ≤ 30000) : -300 ≤ waF s x ∧ waF s x ≤ 400 + 4 * k := by
  obtain ⟨b1, b2, b3, b4, b5, b6, -⟩ := hK.1
  unfold waF
  by_cases h : x = -1
  · rw [if_pos h]; omega
  · rw [if_neg h]
    have := hT (x / 24) (by omega) (by omega)
    omega
theorem htF_bd (hK : okK s) {g t : Int} (g0 : 0 ≤ g) (g1 : g < s 5) (t0 : -300 ≤ t) (t1 : t ≤ 86400) : 0 ≤ htF s g t ∧ htF s g t ≤ 87000 := by
  obtain ⟨e1, e2, e3, -⟩ := hK.2.2.1 g g0 g1
  unfold htF
  omega
/-- the chambers' night keeps what states keep to -/
theorem niC_ok (hK : okK s) (hD : okD D k s) (hk : 0 ≤ k) : same s (niC s (s 4)) ∧ okD D k (niC s (s 4)) := by
  obtain ⟨b1, b2, b3, b4, b5, b6, b7, b8, b9, b10, b11, b12⟩ := hK.1
  refine ⟨vre_same (fun j hj => niC_ne (by unfold vr at hj; omega)) b8 b12, okD_far (t := niC s (s 4)) hD (fun j hj => niC_ne (by omega)) b7 b8 b12 ?_ ?_⟩
  · intro c c0 c1
    rw [niC_ne (j := 4) (by omega)] at c1
    have := hD.2.1 c c0 c1
    rw [niC_ne (j := 12 + 8 * c + 3) (by omega), niC_w c0 c1, niC_o c0 c1]
    omega
  · intro o o0 o1
    rw [niC_ne (j := 7) (by omega)] at o1
    rw [niC_ne (by omega)]
    exact hD.2.2.1 o o0 o1
/-- and so does the rest of it -/
theorem niP_ok (hK : okK s) (hD : okD D k s) (hk0 : 0 ≤ k) (hk : k ≤ 21500) : same s (sset (niP s (s 6)) 0 (s 0 + 1)) ∧ okD (D + 1) k (sset (niP s (s 6)) 0 (s 0 + 1)) := by
  obtain ⟨hA, hT, hV, hP, hW, hL, hQ, hN⟩ := hD
  obtain ⟨a1, a2, a3, a4, a5, a6⟩ := hA
  obtain ⟨b1, b2, b3, b4, b5, b6, b7, b8, b9, b10, b11, b12⟩ := hK.1
  have ht : ∀ j, j ≠ 0 ∧ ¬ (72 ≤ j ∧ j < 72 + 7 * s 6 ∧ ((j - 72) % 7 = 4 ∨ (j - 72) % 7 = 5)) → sset (niP s (s 6)) 0 (s 0 + 1) j = s j := fun j hj => by rw [sset_ne hj.1, niP_ne hj.2]
  have t0 : sset (niP s (s 6)) 0 (s 0 + 1) 0 = s 0 + 1 := sset_eq rfl
  have t4 : ∀ p, 0 ≤ p → p < s 6 → sset (niP s (s 6)) 0 (s 0 + 1) (72 + 7 * p + 4) = if s (72 + 7 * p + 2) ≤ 1 then s (72 + 7 * p + 4) + htF s (s (72 + 7 * p)) (waF s (s (72 + 7 * p + 3))) else s (72 + 7 * p + 4) := fun p p0 p1 => by rw [sset_ne (by omega), niP_h p0 p1]
  have t5 : ∀ p, 0 ≤ p → p < s 6 → sset (niP s (s 6)) 0 (s 0 + 1) (72 + 7 * p + 5) = if s (72 + 7 * p + 2) = 0 then s (72 + 7 * p + 5) + smF s (s (72 + 7 * p)) else s (72 + 7 * p + 5) := fun p p0 p1 => by rw [sset_ne (by omega), niP_t p0 p1]
  generalize sset (niP s (s 6)) 0 (s 0 + 1) = t at *
  have hv : vre s t := fun j hj => ht j (by unfold vr at hj; omega)
  have h6 : t 6 = s 6 := ht 6 (by omega)
  have h8 : t 8 = s 8 := ht 8 (by omega)
  have h4 : t 4 = s 4 := ht 4 (by omega)
  refine ⟨vre_same hv b8 b12, ⟨by omega, by omega, by omega, by omega, by omega, by omega⟩, okT_cg hT h4 (Int.le_refl _) (fun c c0 c1 => ?_), okV_cg hV (ht 7 (by omega)) (fun o o0 o1 => ht _ (by omega)), fun q q0 q1 => ?_, fun q q0 q1 => ?_, fun x x0 x1 => ?_, ?_, ?_⟩
  · rw [ht (12 + 8 * c + 3) (by omega), ht (12 + 8 * c + 4) (by omega), ht (12 + 8 * c + 5) (by omega)]
    have := hT c c0 c1
    omega
  · rw [h6] at q1
    have h1 := hP q q0 q1
    obtain ⟨g0, g1, -⟩ := hP q q0 q1
    have hw := okW_or hW hK q0 q1
    have hwa := waF_bd hK hT (x := s (72 + 7 * q + 3)) (by omega) hk0 (by omega)
    have hht := htF_bd hK (t := waF s (s (72 + 7 * q + 3))) g0 g1 (by omega) (by omega)
    have hsm := smK_bd hK hQ hP g0 g1 (s 8).toNat (by omega)
    have hsm' : 0 ≤ smF s (s (72 + 7 * q)) ∧ smF s (s (72 + 7 * q)) ≤ 9 := hsm
    rw [t0, ht 5 (by omega), ht (72 + 7 * q) (by omega), ht (72 + 7 * q + 1) (by omega), ht (72 + 7 * q + 2) (by omega), ht (72 + 7 * q + 6) (by omega), t4 q q0 q1, t5 q q0 q1]
    have h2 : 0 ≤ (if s (72 + 7 * q + 2) ≤ 1 then s (72 + 7 * q + 4) + htF s (s (72 + 7 * q)) (waF s (s (72 + 7 * q + 3))) else s (72 + 7 * q + 4)) ∧ (if s (72 + 7 * q + 2) ≤ 1 then s (72 + 7 * q + 4) + htF s (s (72 + 7 * q)) (waF s (s (72 + 7 * q + 3))) else s (72 + 7 * q + 4)) ≤ 87000 * (s 0 + 1) := by
      split <;> omega
    have h3 : 0 ≤ (if s (72 + 7 * q + 2) = 0 then s (72 + 7 * q + 5) + smF s (s (72 + 7 * q)) else s (72 + 7 * q + 5)) ∧ (if s (72 + 7 * q + 2) = 0 then s (72 + 7 * q + 5) + smF s (s (72 + 7 * q)) else s (72 + 7 * q + 5)) ≤ 9 * (s 0 + 1) := by
      split <;> omega
    omega
  · rw [h6] at q1
    rw [h4, ht (72 + 7 * q + 2) (by omega), ht (72 + 7 * q + 3) (by omega)]
    obtain ⟨h1, h2⟩ := hW q q0 q1
    refine ⟨fun h9 => ?_, h2⟩
    obtain ⟨x1, x2, x3, x4⟩ := h1 h9
    rw [ht (12 + 8 * (s (72 + 7 * q + 3) / 24) + 1) (by omega), ht (12 + 8 * (s (72 + 7 * q + 3) / 24) + 2) (by omega), ht (400 + s (72 + 7 * q + 3)) (by omega)]
    exact ⟨x1, x2, x3, x4⟩
  · rw [h6, ht (400 + x) (by omega)]
    rcases hL x x0 x1 with h | ⟨h1, h2, h3⟩
    · exact Or.inl h
    · exact Or.inr ⟨h1, h2, by rw [ht _ (by omega)]; exact h3⟩
  · obtain ⟨q1, q2, q3⟩ := hQ
    refine ⟨fun i i0 i1 => ?_, fun i j i0 ij j1 => ?_, fun q q0 q1 hq => ?_⟩
    · rw [h8] at i1
      obtain ⟨f1, f2, f3⟩ := q1 i i0 i1
      rw [ht (392 + i) (by omega), h6, ht _ (by omega)]
      exact ⟨f1, f2, f3⟩
    · rw [h8] at j1
      rw [ht (392 + i) (by omega), ht (392 + j) (by omega)]
      exact q2 i j i0 ij j1
    · rw [h6] at q1
      rw [ht _ (by omega)] at hq
      obtain ⟨i, i0, i1, hi⟩ := q3 q q0 q1 hq
      exact ⟨i, i0, by omega, by rw [ht (392 + i) (by omega)]; exact hi⟩
  · unfold okN at hN ⊢
    rw [ht 9 (by omega), ht 10 (by omega), h6, cntS_cg (s := s) (t := t) (st := 2) _ (fun q q0 q1 => by rw [ht _ (by omega)]), cntS_cg (s := s) (t := t) (st := 3) _ (fun q q0 q1 => by rw [ht _ (by omega)])]
    exact hN
theorem fNight_eq (s : Int → Int) : fNight s = sset (niP (niC s (s 4)) (niC s (s 4) 6)) 0 (niC s (s 4) 0 + 1) := by
  unfold fNight
  rw [niC_ne (j := 6) (by omega), niC_ne (j := 0) (by omega)]
theorem night_ok (hK : okK s) (hD : okD D k s) (hk0 : 0 ≤ k) (hk : k ≤ 21500) : same s (fNight s) ∧ okD (D + 1) k (fNight s) := by
  obtain ⟨h1, h2⟩ := niC_ok hK hD hk0
  obtain ⟨h3, h4⟩ := niP_ok (okK_same hK h1) h2 hk0 hk
  rw [fNight_eq]
  exact ⟨same_trans h1 h3, h4⟩
end
