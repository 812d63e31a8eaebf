/-! ===== the changes keep what the states keep to: going away, setpoints, orders ===== -/
section
variable {s : Int → Int} {D k : Int}
theorem shipW_ok (hK : okK s) (hD : okD D k s) {p how : Int} (p0 : 0 ≤ p) (p1 : p < s 6) (hp : s (72 + 7 * p + 2) = 0) (hh : how = 2 ∨ how = 3) : same s (fShipW s p how) ∧ okD D k (fShipW s p how) := by
  obtain ⟨hA, hT, hV, hP, hW, hL, hQ, hN⟩ := hD
  obtain ⟨a1, a2, a3, a4, a5, a6⟩ := hA
  obtain ⟨b1, b2, b3, b4, b5, b6, b7, b8, b9, b10, b11, b12⟩ := hK.1
  have hq := okQ_at hQ p0 p1 hp
  have hlq := fLv_q a6 hq
  have hl : ∀ j, j ≠ 8 ∧ (j < 392 ∨ 400 ≤ j) → fLv s p j = s j := fun j hj => fLv_ne a6 hj
  have hi : (if how = 2 then (9 : Int) else 10) = how + 7 := by rcases hh with h | h <;> rw [h] <;> rfl
  have ht : ∀ j, j ≠ 8 ∧ (j < 392 ∨ 400 ≤ j) ∧ j ≠ 72 + 7 * p + 2 ∧ j ≠ 72 + 7 * p + 6 ∧ j ≠ how + 7 → fShipW s p how j = s j := by
    intro j hj
    unfold fShipW fGoes
    rw [hi]
    simp (disch := first | assumption | omega) only [sset_ne]
    exact hl j (by omega)
  have tq : qLv s (fShipW s p how) p := qLv_cg hlq a6 (fun j hj => by unfold fShipW fGoes; rw [hi]; simp (disch := first | assumption | omega) only [sset_ne])
  have t2 : fShipW s p how (72 + 7 * p + 2) = how := by unfold fShipW fGoes; rw [hi]; simp (disch := first | assumption | omega) only [sset_ne, sset_eq]
  have t6 : fShipW s p how (72 + 7 * p + 6) = s 0 := by
    unfold fShipW fGoes
    rw [hi]
    simp (disch := first | assumption | omega) only [sset_ne, sset_eq]
    exact hl _ (by omega)
  have tn : fShipW s p how (how + 7) = s (how + 7) + 1 := by
    unfold fShipW fGoes
    rw [hi]
    simp (disch := first | assumption | omega) only [sset_ne, sset_eq]
    rw [hl _ (by omega)]
  generalize fShipW s p how = t at *
  have t8 := tq.1
  have hv : vre s t := fun j hj => ht j (by unfold vr at hj; omega)
  have hc : ∀ q, 0 ≤ q → q < s 6 → q ≠ p → ∀ i, 0 ≤ i → i < 7 → t (72 + 7 * q + i) = s (72 + 7 * q + i) := fun q q0 q1 q2 i i0 i1 => ht _ (by omega)
  have h6 : t 6 = s 6 := ht 6 (by omega)
  have hwn : s (72 + 7 * p + 3) = -1 := (hW p p0 p1).2 (by omega)
  refine ⟨vre_same hv (by omega) (by omega), ⟨by rw [ht 0 (by omega)]; omega, by rw [ht 0 (by omega)]; omega, by omega, by omega, by obtain ⟨i, i0, i1, -⟩ := hq; omega, by omega⟩, okT_cg hT (ht 4 (by omega)) (by omega) (fun d d0 d1 => ?_), okV_cg hV (ht 7 (by omega)) (fun o o0 o1 => ht _ (by omega)), fun q q0 q1 => ?_, fun q q0 q1 => ?_, fun x x0 x1 => ?_, ?_, ?_⟩
  · rw [ht (12 + 8 * d + 3) (by omega), ht (12 + 8 * d + 4) (by omega), ht (12 + 8 * d + 5) (by omega)]
    have := hT d d0 d1
    omega
  · rw [ht 0 (by omega), ht 5 (by omega), ht (72 + 7 * q) (by omega)]
    by_cases h9 : q = p
    · subst h9
      have := hP q p0 p1
      rw [t2, t6, ht (72 + 7 * q + 1) (by omega), ht (72 + 7 * q + 4) (by omega), ht (72 + 7 * q + 5) (by omega)]
      omega
    · have h6q : q < s 6 := by omega
      rw [hc q q0 h6q h9 1 (by omega) (by omega), hc q q0 h6q h9 2 (by omega) (by omega), hc q q0 h6q h9 4 (by omega) (by omega), hc q q0 h6q h9 5 (by omega) (by omega), hc q q0 h6q h9 6 (by omega) (by omega)]
      exact hP q q0 h6q
  · rw [ht 4 (by omega)]
    by_cases h9 : q = p
    · subst h9
      rw [t2, ht (72 + 7 * q + 3) (by omega)]
      exact ⟨fun h7 => by omega, fun _ => hwn⟩
    · have h6q : q < s 6 := by omega
      rw [hc q q0 h6q h9 2 (by omega) (by omega), hc q q0 h6q h9 3 (by omega) (by omega)]
      obtain ⟨h1, h2⟩ := hW q q0 h6q
      refine ⟨fun h8 => ?_, h2⟩
      obtain ⟨x1, x2, x3, x4⟩ := h1 h8
      rw [ht (12 + 8 * (s (72 + 7 * q + 3) / 24) + 1) (by omega), ht (12 + 8 * (s (72 + 7 * q + 3) / 24) + 2) (by omega), ht (400 + s (72 + 7 * q + 3)) (by omega)]
      exact ⟨x1, x2, x3, x4⟩
  · rw [h6, ht (400 + x) (by omega)]
    rcases hL x x0 x1 with h | ⟨h1, h2, h3⟩
    · exact Or.inl h
    · exact Or.inr ⟨h1, h2, by rw [ht _ (by omega)]; exact h3⟩
  · exact okQ_lv hQ tq h6 (by rw [t2]; omega) (fun q q0 q1 q2 => hc q q0 q1 q2 2 (by omega) (by omega))
  · unfold okN at hN ⊢
    have hne : ∀ st : Int, st ≠ 0 → st ≠ how → cntS t st (s 6).toNat = cntS s st (s 6).toNat := by
      intro st hs0 hs1
      refine cntS_cg _ (fun q q0 q1 => ?_)
      by_cases h9 : q = p
      · rw [h9, t2, hp]
        constructor
        · intro h; exact absurd h.symm hs1
        · intro h; exact absurd h.symm hs0
      · rw [hc q q0 (by omega) h9 2 (by omega) (by omega)]
    have hup : cntS t how (s 6).toNat = cntS s how (s 6).toNat + 1 := cntS_up _ p0 (by omega) (by rw [hp]; omega) t2 (fun q q0 q1 q2 => by rw [hc q q0 (by omega) q2 2 (by omega) (by omega)])
    rw [h6]
    rcases hh with h | h
    · subst h
      rw [ht 10 (by omega), hne 3 (by decide) (by decide), hup]
      have : t 9 = s 9 + 1 := tn
      omega
    · subst h
      rw [ht 9 (by omega), hne 2 (by decide) (by decide), hup]
      have : t 10 = s 10 + 1 := tn
      omega
theorem shipS_ok (hK : okK s) (hD : okD D k s) {p how : Int} (p0 : 0 ≤ p) (p1 : p < s 6) (hp : s (72 + 7 * p + 2) = 1) (hh : how = 2 ∨ how = 3) : same s (fShipS s p how) ∧ okD D (k + 1) (fShipS s p how) := by
  obtain ⟨hA, hT, hV, hP, hW, hL, hQ, hN⟩ := hD
  obtain ⟨a1, a2, a3, a4, a5, a6⟩ := hA
  obtain ⟨b1, b2, b3, b4, b5, b6, b7, b8, b9, b10, b11, b12⟩ := hK.1
  obtain ⟨w0, w1, w2, w3⟩ := (hW p p0 p1).1 hp
  have ho3 : ∀ c, 0 ≤ c → c < 3 → fOpen s c (72 + 7 * p + 3) = s (72 + 7 * p + 3) := fun c c0 c1 => by unfold fOpen; exact sset_ne (by omega)
  have hw := ho3 (s (72 + 7 * p + 3) / 24) (by omega) (by omega)
  have hi : (if how = 2 then (9 : Int) else 10) = how + 7 := by rcases hh with h | h <;> rw [h] <;> rfl
  generalize hx : s (72 + 7 * p + 3) = x at *
  have ht : ∀ j, j ≠ 400 + x ∧ j ≠ 72 + 7 * p + 3 ∧ j ≠ 72 + 7 * p + 2 ∧ j ≠ 72 + 7 * p + 6 ∧ j ≠ 12 + 8 * (x / 24) + 5 ∧ j ≠ how + 7 → fShipS s p how j = s j := by
    intro j hj
    unfold fShipS fGoes fTake
    rw [hx, hw, hi]
    unfold fOpen
    simp (disch := first | assumption | omega) only [sset_ne]
  have t2 : fShipS s p how (72 + 7 * p + 2) = how := by
    unfold fShipS fGoes
    rw [hi]
    simp (disch := first | assumption | omega) only [sset_ne, sset_eq]
  have t3 : fShipS s p how (72 + 7 * p + 3) = -1 := by
    unfold fShipS fGoes fTake
    rw [hi]
    simp (disch := first | assumption | omega) only [sset_ne, sset_eq]
  have t6 : fShipS s p how (72 + 7 * p + 6) = s 0 := by
    unfold fShipS fGoes fTake
    rw [hx, hw, hi]
    unfold fOpen
    simp (disch := first | assumption | omega) only [sset_ne, sset_eq]
  have tl : fShipS s p how (400 + x) = -1 := by
    unfold fShipS fGoes fTake
    rw [hx, hw, hi]
    simp (disch := first | assumption | omega) only [sset_ne, sset_eq]
  have to : fShipS s p how (12 + 8 * (x / 24) + 5) = s (12 + 8 * (x / 24) + 5) + 1 := by
    unfold fShipS fGoes fTake
    rw [hx, hw, hi]
    unfold fOpen
    simp (disch := first | assumption | omega) only [sset_ne, sset_eq]
  have tn : fShipS s p how (how + 7) = s (how + 7) + 1 := by
    unfold fShipS fGoes fTake
    rw [hx, hw, hi]
    unfold fOpen
    simp (disch := first | assumption | omega) only [sset_ne, sset_eq]
  generalize fShipS s p how = t at *
  have hv : vre s t := fun j hj => ht j (by unfold vr at hj; omega)
  have hc : ∀ q, 0 ≤ q → q < s 6 → q ≠ p → ∀ i, 0 ≤ i → i < 7 → t (72 + 7 * q + i) = s (72 + 7 * q + i) := fun q q0 q1 q2 i i0 i1 => ht _ (by omega)
  have h6 : t 6 = s 6 := ht 6 (by omega)
  have h8 : t 8 = s 8 := ht 8 (by omega)
  refine ⟨vre_same hv (by omega) (by omega), ⟨by rw [ht 0 (by omega)]; omega, by rw [ht 0 (by omega)]; omega, by omega, by omega, by omega, by omega⟩, okT_cg hT (ht 4 (by omega)) (by omega) (fun d d0 d1 => ?_), okV_cg hV (ht 7 (by omega)) (fun o o0 o1 => ht _ (by omega)), fun q q0 q1 => ?_, fun q q0 q1 => ?_, fun y y0 y1 => ?_, ?_, ?_⟩
  · rw [ht (12 + 8 * d + 3) (by omega), ht (12 + 8 * d + 4) (by omega)]
    have := hT d d0 d1
    by_cases h9 : d = x / 24
    · rw [h9] at this ⊢; rw [to]; omega
    · rw [ht (12 + 8 * d + 5) (by omega)]; omega
  · rw [ht 0 (by omega), ht 5 (by omega), ht (72 + 7 * q) (by omega)]
    by_cases h9 : q = p
    · subst h9
      have := hP q p0 p1
      rw [t2, t6, ht (72 + 7 * q + 1) (by omega), ht (72 + 7 * q + 4) (by omega), ht (72 + 7 * q + 5) (by omega)]
      omega
    · have h6q : q < s 6 := by omega
      rw [hc q q0 h6q h9 1 (by omega) (by omega), hc q q0 h6q h9 2 (by omega) (by omega), hc q q0 h6q h9 4 (by omega) (by omega), hc q q0 h6q h9 5 (by omega) (by omega), hc q q0 h6q h9 6 (by omega) (by omega)]
      exact hP q q0 h6q
  · rw [ht 4 (by omega)]
    by_cases h9 : q = p
    · subst h9
      rw [t2, t3]
      exact ⟨fun h7 => by omega, fun _ => rfl⟩
    · have h6q : q < s 6 := by omega
      rw [hc q q0 h6q h9 2 (by omega) (by omega), hc q q0 h6q h9 3 (by omega) (by omega)]
      obtain ⟨h1, h2⟩ := hW q q0 h6q
      refine ⟨fun h7 => ?_, h2⟩
      obtain ⟨x1, x2, x3, x4⟩ := h1 h7
      have hne : s (72 + 7 * q + 3) ≠ x := by
        intro h5
        rw [h5, w3] at x4
        exact h9 x4.symm
      rw [ht (12 + 8 * (s (72 + 7 * q + 3) / 24) + 1) (by omega), ht (12 + 8 * (s (72 + 7 * q + 3) / 24) + 2) (by omega), ht (400 + s (72 + 7 * q + 3)) (by omega)]
      exact ⟨x1, x2, x3, x4⟩
  · rw [h6]
    by_cases h9 : y = x
    · rw [h9, tl]
      exact Or.inl rfl
    · rw [ht (400 + y) (by omega)]
      rcases hL y y0 y1 with h | ⟨h1, h2, h3⟩
      · exact Or.inl h
      · have hne : s (400 + y) ≠ p := by
          intro h7
          rw [h7, hx] at h3
          exact h9 h3.symm
        exact Or.inr ⟨h1, h2, by rw [hc _ h1 h2 hne 3 (by omega) (by omega)]; exact h3⟩
  · obtain ⟨q1, q2, q3⟩ := hQ
    refine ⟨fun i i0 i1 => ?_, fun i j i0 ij j1 => ?_, fun q q0 q1 hq => ?_⟩
    · rw [h8] at i1
      obtain ⟨f1, f2, f3⟩ := q1 i i0 i1
      rw [ht (392 + i) (by omega), h6, hc _ f1 f2 (fun h9 => by rw [h9, hp] at f3; omega) 2 (by omega) (by omega)]
      exact ⟨f1, f2, f3⟩
    · rw [h8] at j1
      rw [ht (392 + i) (by omega), ht (392 + j) (by omega)]
      exact q2 i j i0 ij j1
    · rw [h6] at q1
      have hqp : q ≠ p := fun h9 => by rw [h9, t2] at hq; omega
      rw [hc q q0 q1 hqp 2 (by omega) (by omega)] at hq
      obtain ⟨i, i0, i1, hi⟩ := q3 q q0 q1 hq
      exact ⟨i, i0, by omega, by rw [ht (392 + i) (by omega)]; exact hi⟩
  · unfold okN at hN ⊢
    have hne : ∀ st : Int, st ≠ 1 → st ≠ how → cntS t st (s 6).toNat = cntS s st (s 6).toNat := by
      intro st hs0 hs1
      refine cntS_cg _ (fun q q0 q1 => ?_)
      by_cases h9 : q = p
      · rw [h9, t2, hp]
        constructor
        · intro h; exact absurd h.symm hs1
        · intro h; exact absurd h.symm hs0
      · rw [hc q q0 (by omega) h9 2 (by omega) (by omega)]
    have hup : cntS t how (s 6).toNat = cntS s how (s 6).toNat + 1 := cntS_up _ p0 (by omega) (by rw [hp]; omega) t2 (fun q q0 q1 q2 => by rw [hc q q0 (by omega) q2 2 (by omega) (by omega)])
    rw [h6]
    rcases hh with h | h
    · subst h
      rw [ht 10 (by omega), hne 3 (by decide) (by decide), hup]
      have : t 9 = s 9 + 1 := tn
      omega
    · subst h
      rw [ht 9 (by omega), hne 2 (by decide) (by decide), hup]
      have : t 10 = s 10 + 1 := tn
      omega
/-- a change of places that only okT or okV speak of -/
theorem okD_far (hD : okD D k s) {t : Int → Int} (ht : ∀ j, ¬ ((12 ≤ j ∧ j < 36 ∧ 3 ≤ (j - 12) % 8 ∧ (j - 12) % 8 ≤ 5) ∨ (352 ≤ j ∧ j < 392 ∧ (j - 352) % 4 = 3)) → t j = s j) (b7 : 0 ≤ s 4) (b8 : s 4 ≤ 3) (b9 : s 7 ≤ 10) {k' : Int} (hT : okT k' t) (hV : okV t) : okD D k' t := by
  obtain ⟨hA, -, -, hP, hW, hL, hQ, hN⟩ := hD
  obtain ⟨a1, a2, a3, a4, a5, a6⟩ := hA
  have h0 := ht 0 (by omega)
  have h4 := ht 4 (by omega)
  have h5 := ht 5 (by omega)
  have h6 := ht 6 (by omega)
  have h8 := ht 8 (by omega)
  have hb : ∀ j, 72 ≤ j ∧ j < 352 → t j = s j := fun j hj => ht j (by omega)
  have hb2 : ∀ j, 392 ≤ j → t j = s j := fun j hj => ht j (by omega)
  refine ⟨⟨by omega, by omega, by omega, by omega, by omega, by omega⟩, hT, hV, fun q q0 q1 => ?_, fun q q0 q1 => ?_, fun x x0 x1 => ?_, ?_, ?_⟩
  · rw [h0, h5, hb _ (by omega), hb _ (by omega), hb _ (by omega), hb _ (by omega), hb _ (by omega), hb _ (by omega)]
    exact hP q q0 (by omega)
  · rw [h4, hb (72 + 7 * q + 2) (by omega), hb (72 + 7 * q + 3) (by omega)]
    obtain ⟨h1, h2⟩ := hW q q0 (by omega)
    refine ⟨fun h => ?_, h2⟩
    obtain ⟨x1, x2, x3, x4⟩ := h1 h
    rw [ht (12 + 8 * (s (72 + 7 * q + 3) / 24) + 1) (by omega), ht (12 + 8 * (s (72 + 7 * q + 3) / 24) + 2) (by omega), hb2 (400 + s (72 + 7 * q + 3)) (by omega)]
    exact ⟨x1, x2, x3, x4⟩
  · rw [h6, hb2 (400 + x) (by omega)]
    rcases hL x x0 x1 with h | ⟨h1, h2, h3⟩
    · exact Or.inl h
    · exact Or.inr ⟨h1, h2, by rw [hb _ (by omega)]; exact h3⟩
  · obtain ⟨q1, q2, q3⟩ := hQ
    refine ⟨fun i i0 i1 => ?_, fun i j i0 ij j1 => ?_, fun q q0 q1 hq => ?_⟩
    · obtain ⟨f1, f2, f3⟩ := q1 i i0 (by omega)
      rw [hb2 (392 + i) (by omega), h6, hb _ (by omega)]
      exact ⟨f1, f2, f3⟩
    · rw [hb2 (392 + i) (by omega), hb2 (392 + j) (by omega)]
      exact q2 i j i0 ij (by omega)
    · rw [hb _ (by omega)] at hq
      obtain ⟨i, i0, i1, hi⟩ := q3 q q0 (by omega) hq
      exact ⟨i, i0, by omega, by rw [hb2 (392 + i) (by omega)]; exact hi⟩
  · unfold okN at hN ⊢
    rw [ht 9 (by omega), ht 10 (by omega), h6, cntS_cg (s := s) (t := t) (st := 2) _ (fun q q0 q1 => by rw [hb _ (by omega)]), cntS_cg (s := s) (t := t) (st := 3) _ (fun q q0 q1 => by rw [hb _ (by omega)])]
    exact hN
theorem setp_ok (hK : okK s) (hD : okD D k s) {c v : Int} (c0 : 0 ≤ c) (c1 : c < s 4) (v0 : -30 ≤ v) (v1 : v ≤ 20) : same s (sset s (12 + 8 * c + 3) v) ∧ okD D k (sset s (12 + 8 * c + 3) v) := by
  obtain ⟨b1, b2, b3, b4, b5, b6, b7, b8, b9, b10, b11, b12⟩ := hK.1
  refine ⟨vre_same (vre_set (vre_refl s) (by unfold vr; omega)) (by omega) (by omega), okD_far (t := sset s (12 + 8 * c + 3) v) hD (fun j hj => sset_ne (by omega)) b7 b8 b12 ?_ ?_⟩
  · refine okT_cg hD.2.1 (sset_ne (by omega)) (Int.le_refl _) (fun d d0 d1 => ?_)
    have := hD.2.1 d d0 d1
    rw [sset_ne (j := 12 + 8 * d + 4) (by omega), sset_ne (j := 12 + 8 * d + 5) (by omega)]
    by_cases h : d = c
    · rw [sset_eq (by omega)]; omega
    · rw [sset_ne (by omega)]; omega
  · exact okV_cg hD.2.2.1 (sset_ne (by omega)) (fun o o0 o1 => sset_ne (by omega))
theorem srv_ok (hK : okK s) (hD : okD D k s) {o : Int} (o0 : 0 ≤ o) (o1 : o < s 7) : same s (sset s (352 + 4 * o + 3) 1) ∧ okD D k (sset s (352 + 4 * o + 3) 1) := by
  obtain ⟨b1, b2, b3, b4, b5, b6, b7, b8, b9, b10, b11, b12⟩ := hK.1
  refine ⟨vre_same (vre_set (vre_refl s) (by unfold vr; omega)) (by omega) (by omega), okD_far (t := sset s (352 + 4 * o + 3) 1) hD (fun j hj => sset_ne (by omega)) b7 b8 b12 ?_ ?_⟩
  · refine okT_cg hD.2.1 (sset_ne (by omega)) (Int.le_refl _) (fun d d0 d1 => ?_)
    have := hD.2.1 d d0 d1
    rw [sset_ne (j := 12 + 8 * d + 3) (by omega), sset_ne (j := 12 + 8 * d + 4) (by omega), sset_ne (j := 12 + 8 * d + 5) (by omega)]
    omega
  · intro q q0 q1
    rw [sset_ne (by omega)] at q1
    by_cases h : q = o
    · rw [sset_eq (by omega)]; omega
    · rw [sset_ne (by omega)]; exact hD.2.2.1 q q0 q1
theorem okD_mono {D' k' : Int} (hD : okD D k s) (h1 : D ≤ D') (h2 : k ≤ k') : okD D' k' s := by
  obtain ⟨⟨a1, a2, a3, a4, a5, a6⟩, hT, h⟩ := hD
  exact ⟨⟨a1, by omega, a3, a4, a5, a6⟩, fun c c0 c1 => by have := hT c c0 c1; omega, h⟩
end
