/-! ===== the changes keep what the states keep to: storing, bringing out, shifting, shipping ===== -/
def fStore (s : Int → Int) (p c cell : Int) : Int → Int := fOpen (fPut (fLv s p) p c cell) c
def fRetr (s : Int → Int) (p : Int) : Int → Int := fEnq (sset (fTake (fOpen s (s (72 + 7 * p + 3) / 24)) p) (72 + 7 * p + 2) 0) p
def fShift (s : Int → Int) (p c cell : Int) : Int → Int := fPut (fTake s p) p c cell
def fShipW (s : Int → Int) (p how : Int) : Int → Int := fGoes (fLv s p) p how
def fShipS (s : Int → Int) (p how : Int) : Int → Int := fGoes (fTake (fOpen s (s (72 + 7 * p + 3) / 24)) p) p how
section
variable {s : Int → Int} {D k : Int}
/-- the queue's place of a waiting pallet -/
theorem okQ_at (hQ : okQ s) {p : Int} (p0 : 0 ≤ p) (p1 : p < s 6) (hp : s (72 + 7 * p + 2) = 0) : ∃ i, 0 ≤ i ∧ i < s 8 ∧ s (392 + i) = p := hQ.2.2 p p0 p1 hp
theorem store_ok (hK : okK s) (hD : okD D k s) {p c cell : Int} (p0 : 0 ≤ p) (p1 : p < s 6) (hp : s (72 + 7 * p + 2) = 0) (c0 : 0 ≤ c) (c1 : c < s 4) (l0 : 0 ≤ cell) (l1 : cell < nC s c) (hf : s (400 + 24 * c + cell) = -1) : same s (fStore s p c cell) ∧ okD D (k + 1) (fStore s p c cell) := by
  obtain ⟨hA, hT, hV, hP, hW, hL, hQ, hN⟩ := hD
  obtain ⟨a1, a2, a3, a4, a5, a6⟩ := hA
  obtain ⟨b1, b2, b3, b4, b5, b6, b7, b8, b9, b10, b11, b12⟩ := hK.1
  obtain ⟨e, n1, n2, r1, r2, w1, w2, c3⟩ := nC_eq hK c0 c1
  have hq := okQ_at hQ p0 p1 hp
  have hlq := fLv_q a6 hq
  have hl : ∀ j, j ≠ 8 ∧ (j < 392 ∨ 400 ≤ j) → fLv s p j = s j := fun j hj => fLv_ne a6 hj
  have hl8 : fLv s p 8 = s 8 - 1 := fLv_8
  have ht : ∀ j, j ≠ 8 ∧ (j < 392 ∨ 400 ≤ j) ∧ j ≠ 400 + 24 * c + cell ∧ j ≠ 72 + 7 * p + 3 ∧ j ≠ 72 + 7 * p + 2 ∧ j ≠ 12 + 8 * c + 5 → fStore s p c cell j = s j := by
    intro j hj
    unfold fStore fOpen fPut
    simp (disch := first | assumption | omega) only [sset_ne]
    exact hl j (by omega)
  have tq : qLv s (fStore s p c cell) p := qLv_cg hlq a6 (fun j hj => by unfold fStore fOpen fPut; simp (disch := first | assumption | omega) only [sset_ne])
  have t2 : fStore s p c cell (72 + 7 * p + 2) = 1 := by unfold fStore fOpen fPut; simp (disch := first | assumption | omega) only [sset_ne, sset_eq]
  have t3 : fStore s p c cell (72 + 7 * p + 3) = 24 * c + cell := by unfold fStore fOpen fPut; simp (disch := first | assumption | omega) only [sset_ne, sset_eq]
  have tl : fStore s p c cell (400 + 24 * c + cell) = p := by unfold fStore fOpen fPut; simp (disch := first | assumption | omega) only [sset_ne, sset_eq]
  have to : fStore s p c cell (12 + 8 * c + 5) = s (12 + 8 * c + 5) + 1 := by
    unfold fStore fOpen fPut
    simp (disch := first | assumption | omega) only [sset_ne, sset_eq]
    rw [hl _ (by omega)]
  generalize fStore s p c cell = t at *
  have t8 := tq.1
  have hv : vre s t := fun j hj => ht j (by unfold vr at hj; omega)
  have hc : ∀ q, 0 ≤ q → q < s 6 → q ≠ p → ∀ i, 0 ≤ i → i < 7 → t (72 + 7 * q + i) = s (72 + 7 * q + i) := fun q q0 q1 q2 i i0 i1 => ht _ (by omega)
  have hc0 : ∀ q, 0 ≤ q → q < s 6 → t (72 + 7 * q) = s (72 + 7 * q) := fun q q0 q1 => ht _ (by omega)
  have h6 : t 6 = s 6 := ht 6 (by omega)
  have hwn : s (72 + 7 * p + 3) = -1 := (hW p p0 p1).2 (by omega)
  refine ⟨vre_same hv (by omega) (by omega), ⟨by rw [ht 0 (by omega)]; omega, by rw [ht 0 (by omega)]; omega, by omega, by omega, by obtain ⟨i, i0, i1, -⟩ := hq; omega, by omega⟩, okT_cg hT (ht 4 (by omega)) (by omega) (fun d d0 d1 => ?_), okV_cg hV (ht 7 (by omega)) (fun o o0 o1 => ht _ (by omega)), fun q q0 q1 => ?_, fun q q0 q1 => ?_, fun x x0 x1 => ?_, ?_, ?_⟩
  · rw [ht (12 + 8 * d + 3) (by omega), ht (12 + 8 * d + 4) (by omega)]
    have := hT d d0 d1
    by_cases h9 : d = c
    · rw [h9] at this ⊢; rw [to]; omega
    · rw [ht (12 + 8 * d + 5) (by omega)]; omega
  · rw [ht 0 (by omega), ht 5 (by omega), hc0 q q0 (by omega)]
    by_cases h9 : q = p
    · subst h9
      have := hP q p0 p1
      rw [t2, ht (72 + 7 * q + 1) (by omega), ht (72 + 7 * q + 4) (by omega), ht (72 + 7 * q + 5) (by omega)]
      omega
    · have h6q : q < s 6 := by omega
      rw [hc q q0 h6q h9 1 (by omega) (by omega), hc q q0 h6q h9 2 (by omega) (by omega), hc q q0 h6q h9 4 (by omega) (by omega), hc q q0 h6q h9 5 (by omega) (by omega), hc q q0 h6q h9 6 (by omega) (by omega)]
      exact hP q q0 h6q
  · rw [ht 4 (by omega)]
    by_cases h9 : q = p
    · subst h9
      rw [t2, t3]
      refine ⟨fun _ => ?_, fun h8 => absurd rfl h8⟩
      have hd : (24 * c + cell) / 24 = c := by omega
      rw [hd, show 400 + (24 * c + cell) = 400 + 24 * c + cell by omega, tl, ht (12 + 8 * c + 1) (by omega), ht (12 + 8 * c + 2) (by omega)]
      have e' : ((nC s c : Nat) : Int) = s (12 + 8 * c + 1) * s (12 + 8 * c + 2) := e
      exact ⟨by omega, c1, by omega, rfl⟩
    · have h6q : q < s 6 := by omega
      rw [hc q q0 h6q h9 2 (by omega) (by omega), hc q q0 h6q h9 3 (by omega) (by omega)]
      obtain ⟨h1, h2⟩ := hW q q0 h6q
      refine ⟨fun h8 => ?_, h2⟩
      obtain ⟨x1, x2, x3, x4⟩ := h1 h8
      have hne : s (72 + 7 * q + 3) ≠ 24 * c + cell := by
        intro h7
        rw [h7, show 400 + (24 * c + cell) = 400 + 24 * c + cell by omega, hf] at x4
        omega
      rw [ht (12 + 8 * (s (72 + 7 * q + 3) / 24) + 1) (by omega), ht (12 + 8 * (s (72 + 7 * q + 3) / 24) + 2) (by omega), ht (400 + s (72 + 7 * q + 3)) (by omega)]
      exact ⟨x1, x2, x3, x4⟩
  · rw [h6]
    by_cases h9 : x = 24 * c + cell
    · rw [show 400 + x = 400 + 24 * c + cell by omega, tl]
      exact Or.inr ⟨p0, p1, by rw [t3]; omega⟩
    · rw [ht (400 + x) (by omega)]
      rcases hL x x0 x1 with h | ⟨h1, h2, h3⟩
      · exact Or.inl h
      · have hne : s (400 + x) ≠ p := by
          intro h8
          rw [h8] at h3
          omega
        exact Or.inr ⟨h1, h2, by rw [hc _ h1 h2 hne 3 (by omega) (by omega)]; exact h3⟩
  · exact okQ_lv hQ tq h6 (by rw [t2]; decide) (fun q q0 q1 q2 => hc q q0 q1 q2 2 (by omega) (by omega))
  · unfold okN at hN ⊢
    have h2 : ∀ st : Int, st ≠ 0 → st ≠ 1 → cntS t st (s 6).toNat = cntS s st (s 6).toNat := by
      intro st hs0 hs1
      refine cntS_cg _ (fun q q0 q1 => ?_)
      by_cases h9 : q = p
      · rw [h9, t2, hp]
        constructor
        · intro h; exact absurd h.symm hs1
        · intro h; exact absurd h.symm hs0
      · rw [hc q q0 (by omega) h9 2 (by omega) (by omega)]
    rw [ht 9 (by omega), ht 10 (by omega), h6, h2 2 (by decide) (by decide), h2 3 (by decide) (by decide)]
    exact hN
theorem retr_ok (hK : okK s) (hD : okD D k s) {p : Int} (p0 : 0 ≤ p) (p1 : p < s 6) (hp : s (72 + 7 * p + 2) = 1) (h8 : s 8 < 8) : same s (fRetr s p) ∧ okD D (k + 1) (fRetr s p) := by
  obtain ⟨hA, hT, hV, hP, hW, hL, hQ, hN⟩ := hD
  obtain ⟨a1, a2, a3, a4, a5, a6⟩ := hA
  obtain ⟨b1, b2, b3, b4, b5, b6, b7, b8, b9, b10, b11, b12⟩ := hK.1
  obtain ⟨w0, w1, w2, w3⟩ := (hW p p0 p1).1 hp
  have ho3 : ∀ c, 0 ≤ c → c < 3 → fOpen s c (72 + 7 * p + 3) = s (72 + 7 * p + 3) := fun c c0 c1 => by unfold fOpen; exact sset_ne (by omega)
  have hw := ho3 (s (72 + 7 * p + 3) / 24) (by omega) (by omega)
  generalize hx : s (72 + 7 * p + 3) = x at *
  have ht : ∀ j, j ≠ 8 ∧ j ≠ 392 + s 8 ∧ j ≠ 400 + x ∧ j ≠ 72 + 7 * p + 3 ∧ j ≠ 72 + 7 * p + 2 ∧ j ≠ 12 + 8 * (x / 24) + 5 → fRetr s p j = s j := by
    intro j hj
    unfold fRetr fEnq fTake
    rw [hx, hw]
    unfold fOpen
    simp (disch := first | assumption | omega) only [sset_ne]
  have t8 : fRetr s p 8 = s 8 + 1 := by
    unfold fRetr fEnq fTake
    rw [hx, hw]
    unfold fOpen
    simp (disch := first | assumption | omega) only [sset_ne, sset_eq]
  have tq : fRetr s p (392 + s 8) = p := by
    unfold fRetr fEnq fTake
    rw [hx, hw]
    unfold fOpen
    simp (disch := first | assumption | omega) only [sset_ne, sset_eq]
  have t2 : fRetr s p (72 + 7 * p + 2) = 0 := by
    unfold fRetr fEnq fTake
    rw [hx, hw]
    unfold fOpen
    simp (disch := first | assumption | omega) only [sset_ne, sset_eq]
  have t3 : fRetr s p (72 + 7 * p + 3) = -1 := by
    unfold fRetr fEnq fTake
    rw [hx, hw]
    unfold fOpen
    simp (disch := first | assumption | omega) only [sset_ne, sset_eq]
  have tl : fRetr s p (400 + x) = -1 := by
    unfold fRetr fEnq fTake
    rw [hx, hw]
    unfold fOpen
    simp (disch := first | assumption | omega) only [sset_ne, sset_eq]
  have to : fRetr s p (12 + 8 * (x / 24) + 5) = s (12 + 8 * (x / 24) + 5) + 1 := by
    unfold fRetr fEnq fTake
    rw [hx, hw]
    unfold fOpen
    simp (disch := first | assumption | omega) only [sset_ne, sset_eq]
  generalize fRetr s p = t at *
  have hv : vre s t := fun j hj => ht j (by unfold vr at hj; omega)
  have hc : ∀ q, 0 ≤ q → q < s 6 → q ≠ p → ∀ i, 0 ≤ i → i < 7 → t (72 + 7 * q + i) = s (72 + 7 * q + i) := fun q q0 q1 q2 i i0 i1 => ht _ (by omega)
  have hc0 : ∀ q, 0 ≤ q → q < s 6 → t (72 + 7 * q) = s (72 + 7 * q) := fun q q0 q1 => ht _ (by omega)
  have h6 : t 6 = s 6 := ht 6 (by omega)
  refine ⟨vre_same hv (by omega) (by omega), ⟨by rw [ht 0 (by omega)]; omega, by rw [ht 0 (by omega)]; omega, by omega, by omega, by omega, by omega⟩, okT_cg hT (ht 4 (by omega)) (by omega) (fun d d0 d1 => ?_), okV_cg hV (ht 7 (by omega)) (fun o o0 o1 => ht _ (by omega)), fun q q0 q1 => ?_, fun q q0 q1 => ?_, fun y y0 y1 => ?_, ?_, ?_⟩
  · rw [ht (12 + 8 * d + 3) (by omega), ht (12 + 8 * d + 4) (by omega)]
    have := hT d d0 d1
    by_cases h9 : d = x / 24
    · rw [h9] at this ⊢; rw [to]; omega
    · rw [ht (12 + 8 * d + 5) (by omega)]; omega
  · rw [ht 0 (by omega), ht 5 (by omega), hc0 q q0 (by omega)]
    by_cases h9 : q = p
    · subst h9
      have := hP q p0 p1
      rw [t2, ht (72 + 7 * q + 1) (by omega), ht (72 + 7 * q + 4) (by omega), ht (72 + 7 * q + 5) (by omega)]
      omega
    · have h6q : q < s 6 := by omega
      rw [hc q q0 h6q h9 1 (by omega) (by omega), hc q q0 h6q h9 2 (by omega) (by omega), hc q q0 h6q h9 4 (by omega) (by omega), hc q q0 h6q h9 5 (by omega) (by omega), hc q q0 h6q h9 6 (by omega) (by omega)]
      exact hP q q0 h6q
  · rw [ht 4 (by omega)]
    by_cases h9 : q = p
    · subst h9
      rw [t2, t3]
      exact ⟨fun h7 => by omega, fun _ => rfl⟩
    · have h6q : q < s 6 := by omega
      rw [hc q q0 h6q h9 2 (by omega) (by omega), hc q q0 h6q h9 3 (by omega) (by omega)]
      obtain ⟨h1, h2⟩ := hW q q0 h6q
      refine ⟨fun h7 => ?_, h2⟩
      obtain ⟨x1, x2, x3, x4⟩ := h1 h7
      have hne : s (72 + 7 * q + 3) ≠ x := by
        intro h5
        rw [h5, w3] at x4
        exact h9 x4.symm
      rw [ht (12 + 8 * (s (72 + 7 * q + 3) / 24) + 1) (by omega), ht (12 + 8 * (s (72 + 7 * q + 3) / 24) + 2) (by omega), ht (400 + s (72 + 7 * q + 3)) (by omega)]
      exact ⟨x1, x2, x3, x4⟩
  · rw [h6]
    by_cases h9 : y = x
    · rw [h9, tl]
      exact Or.inl rfl
    · rw [ht (400 + y) (by omega)]
      rcases hL y y0 y1 with h | ⟨h1, h2, h3⟩
      · exact Or.inl h
      · have hne : s (400 + y) ≠ p := by
          intro h7
          rw [h7, hx] at h3
          exact h9 h3.symm
        exact Or.inr ⟨h1, h2, by rw [hc _ h1 h2 hne 3 (by omega) (by omega)]; exact h3⟩
  · refine okQ_en (p := p) hQ ⟨t8, tq, fun i i0 i1 => ht _ (by omega)⟩ a5 (by omega) (fun q _ _ => by omega) p0 (by omega) t2 (Or.inr (by rw [hp]; decide)) (fun q q0 q1 q2 => hc q q0 q1 q2 2 (by omega) (by omega))
  · unfold okN at hN ⊢
    have h2 : ∀ st : Int, st ≠ 0 → st ≠ 1 → cntS t st (s 6).toNat = cntS s st (s 6).toNat := by
      intro st hs0 hs1
      refine cntS_cg _ (fun q q0 q1 => ?_)
      by_cases h9 : q = p
      · rw [h9, t2, hp]
        constructor
        · intro h; exact absurd h.symm hs0
        · intro h; exact absurd h.symm hs1
      · rw [hc q q0 (by omega) h9 2 (by omega) (by omega)]
    rw [ht 9 (by omega), ht 10 (by omega), h6, h2 2 (by decide) (by decide), h2 3 (by decide) (by decide)]
    exact hN
theorem shift_ok (hK : okK s) (hD : okD D k s) {p c cell : Int} (p0 : 0 ≤ p) (p1 : p < s 6) (hp : s (72 + 7 * p + 2) = 1) (hcx : s (72 + 7 * p + 3) / 24 = c) (l0 : 0 ≤ cell) (l1 : cell < nC s c) (hf : s (400 + 24 * c + cell) = -1) : same s (fShift s p c cell) ∧ okD D k (fShift s p c cell) := by
  obtain ⟨hA, hT, hV, hP, hW, hL, hQ, hN⟩ := hD
  obtain ⟨a1, a2, a3, a4, a5, a6⟩ := hA
  obtain ⟨b1, b2, b3, b4, b5, b6, b7, b8, b9, b10, b11, b12⟩ := hK.1
  obtain ⟨w0, w1, w2, w3⟩ := (hW p p0 p1).1 hp
  generalize hx : s (72 + 7 * p + 3) = x at *
  have c0 : 0 ≤ c := by omega
  have c1 : c < s 4 := by omega
  obtain ⟨e, n1, n2, r1, r2, v1, v2, c3⟩ := nC_eq hK c0 c1
  have hxc : x ≠ 24 * c + cell := by
    intro h9
    rw [h9, show 400 + (24 * c + cell) = 400 + 24 * c + cell by omega, hf] at w3
    omega
  have ht : ∀ j, j ≠ 400 + x ∧ j ≠ 400 + 24 * c + cell ∧ j ≠ 72 + 7 * p + 3 ∧ j ≠ 72 + 7 * p + 2 → fShift s p c cell j = s j := by
    intro j hj
    unfold fShift fPut fTake
    rw [hx]
    simp (disch := first | assumption | omega) only [sset_ne]
  have t2 : fShift s p c cell (72 + 7 * p + 2) = 1 := by unfold fShift fPut; simp (disch := first | assumption | omega) only [sset_ne, sset_eq]
  have t3 : fShift s p c cell (72 + 7 * p + 3) = 24 * c + cell := by unfold fShift fPut; simp (disch := first | assumption | omega) only [sset_ne, sset_eq]
  have tl : fShift s p c cell (400 + 24 * c + cell) = p := by unfold fShift fPut; simp (disch := first | assumption | omega) only [sset_ne, sset_eq]
  have tx : fShift s p c cell (400 + x) = -1 := by unfold fShift fPut fTake; rw [hx]; simp (disch := first | assumption | omega) only [sset_ne, sset_eq]
  generalize fShift s p c cell = t at *
  have hv : vre s t := fun j hj => ht j (by unfold vr at hj; omega)
  have hc : ∀ q, 0 ≤ q → q < s 6 → q ≠ p → ∀ i, 0 ≤ i → i < 7 → t (72 + 7 * q + i) = s (72 + 7 * q + i) := fun q q0 q1 q2 i i0 i1 => ht _ (by omega)
  have hc0 : ∀ q, 0 ≤ q → q < s 6 → t (72 + 7 * q) = s (72 + 7 * q) := fun q q0 q1 => ht _ (by omega)
  have hh : ∀ q, 0 ≤ q → q < s 6 → t (72 + 7 * q + 2) = s (72 + 7 * q + 2) := fun q q0 q1 => by
    by_cases h9 : q = p
    · rw [h9, t2, hp]
    · exact hc q q0 q1 h9 2 (by omega) (by omega)
  have h6 : t 6 = s 6 := ht 6 (by omega)
  have h8 : t 8 = s 8 := ht 8 (by omega)
  refine ⟨vre_same hv (by omega) (by omega), ⟨by rw [ht 0 (by omega)]; omega, by rw [ht 0 (by omega)]; omega, by omega, by omega, by omega, by omega⟩, okT_cg hT (ht 4 (by omega)) (by omega) (fun d d0 d1 => ?_), okV_cg hV (ht 7 (by omega)) (fun o o0 o1 => ht _ (by omega)), fun q q0 q1 => ?_, fun q q0 q1 => ?_, fun y y0 y1 => ?_, ?_, ?_⟩
  · rw [ht (12 + 8 * d + 3) (by omega), ht (12 + 8 * d + 4) (by omega), ht (12 + 8 * d + 5) (by omega)]
    have := hT d d0 d1
    omega
  · rw [ht 0 (by omega), ht 5 (by omega), hc0 q q0 (by omega), hh q q0 (by omega), ht (72 + 7 * q + 1) (by omega), ht (72 + 7 * q + 4) (by omega), ht (72 + 7 * q + 5) (by omega), ht (72 + 7 * q + 6) (by omega)]
    exact hP q q0 (by omega)
  · rw [ht 4 (by omega)]
    by_cases h9 : q = p
    · subst h9
      rw [t2, t3]
      refine ⟨fun _ => ?_, fun h8 => absurd rfl h8⟩
      have hd : (24 * c + cell) / 24 = c := by omega
      rw [hd, show 400 + (24 * c + cell) = 400 + 24 * c + cell by omega, tl, ht (12 + 8 * c + 1) (by omega), ht (12 + 8 * c + 2) (by omega)]
      have e' : ((nC s c : Nat) : Int) = s (12 + 8 * c + 1) * s (12 + 8 * c + 2) := e
      exact ⟨by omega, c1, by omega, rfl⟩
    · have h6q : q < s 6 := by omega
      rw [hc q q0 h6q h9 2 (by omega) (by omega), hc q q0 h6q h9 3 (by omega) (by omega)]
      obtain ⟨h1, h2⟩ := hW q q0 h6q
      refine ⟨fun h7 => ?_, h2⟩
      obtain ⟨x1, x2, x3, x4⟩ := h1 h7
      have hne : s (72 + 7 * q + 3) ≠ x := by
        intro h5
        rw [h5, w3] at x4
        exact h9 x4.symm
      have hne2 : s (72 + 7 * q + 3) ≠ 24 * c + cell := by
        intro h7
        rw [h7, show 400 + (24 * c + cell) = 400 + 24 * c + cell by omega, hf] at x4
        omega
      rw [ht (12 + 8 * (s (72 + 7 * q + 3) / 24) + 1) (by omega), ht (12 + 8 * (s (72 + 7 * q + 3) / 24) + 2) (by omega), ht (400 + s (72 + 7 * q + 3)) (by omega)]
      exact ⟨x1, x2, x3, x4⟩
  · rw [h6]
    by_cases h9 : y = x
    · rw [h9, tx]
      exact Or.inl rfl
    · by_cases h7 : y = 24 * c + cell
      · rw [show 400 + y = 400 + 24 * c + cell by omega, tl]
        exact Or.inr ⟨p0, p1, by rw [t3]; omega⟩
      · rw [ht (400 + y) (by omega)]
        rcases hL y y0 y1 with h | ⟨h1, h2, h3⟩
        · exact Or.inl h
        · have hne : s (400 + y) ≠ p := by
            intro h7
            rw [h7, hx] at h3
            exact h9 h3.symm
          exact Or.inr ⟨h1, h2, by rw [hc _ h1 h2 hne 3 (by omega) (by omega)]; exact h3⟩
  · obtain ⟨q1, q2, q3⟩ := hQ
    refine ⟨fun i i0 i1 => ?_, fun i j i0 ij j1 => ?_, fun q q0 q1 hq => ?_⟩
    · rw [h8] at i1
      obtain ⟨f1, f2, f3⟩ := q1 i i0 i1
      rw [ht (392 + i) (by omega), h6, hh _ f1 f2]
      exact ⟨f1, f2, f3⟩
    · rw [h8] at j1
      rw [ht (392 + i) (by omega), ht (392 + j) (by omega)]
      exact q2 i j i0 ij j1
    · rw [h6] at q1
      rw [hh q q0 q1] at hq
      obtain ⟨i, i0, i1, hi⟩ := q3 q q0 q1 hq
      exact ⟨i, i0, by omega, by rw [ht (392 + i) (by omega)]; exact hi⟩
  · unfold okN at hN ⊢
    rw [ht 9 (by omega), ht 10 (by omega), h6, cntS_cg (s := s) (t := t) (st := 2) _ (fun q q0 q1 => by rw [hh q q0 (by omega)]), cntS_cg (s := s) (t := t) (st := 3) _ (fun q q0 q1 => by rw [hh q q0 (by omega)])]
    exact hN
end
