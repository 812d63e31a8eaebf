/-! ===== the changes keep what the states keep to ===== -/
/-- places that changes may change -/
def vr (j : Int) : Prop := j = 0 ∨ j = 6 ∨ j = 8 ∨ j = 9 ∨ j = 10 ∨ (72 ≤ j ∧ j < 352) ∨ 392 ≤ j ∨ (12 ≤ j ∧ j < 36 ∧ 3 ≤ (j - 12) % 8 ∧ (j - 12) % 8 ≤ 5) ∨ (352 ≤ j ∧ j < 392 ∧ (j - 352) % 4 = 3)
def vre (s t : Int → Int) : Prop := ∀ j, ¬ vr j → t j = s j
theorem vre_refl (s : Int → Int) : vre s s := fun _ _ => rfl
theorem vre_set {s t : Int → Int} {i v : Int} (h : vre s t) (hi : vr i) : vre s (sset t i v) := by
  intro j hj
  rw [sset_ne (fun e => hj (by rw [e]; exact hi))]
  exact h j hj
theorem vre_same {s t : Int → Int} (h : vre s t) (h4 : s 4 ≤ 3) (h7 : s 7 ≤ 10) : same s t := by
  refine ⟨(h 1 ?_).symm, (h 2 ?_).symm, (h 3 ?_).symm, (h 4 ?_).symm, (h 5 ?_).symm, (h 7 ?_).symm, fun c a b => ⟨(h _ ?_).symm, (h _ ?_).symm, (h _ ?_).symm, (h _ ?_).symm⟩, fun j a b => (h _ ?_).symm, fun o a b => ⟨(h _ ?_).symm, (h _ ?_).symm, (h _ ?_).symm⟩⟩
  all_goals (unfold vr; omega)
theorem cntB_cg {p q : Nat → Bool} : ∀ n, (∀ k, k < n → p k = q k) → cntB p n = cntB q n := by
  intro n
  induction n with
  | zero => intro _; rfl
  | succ n ih =>
    intro h
    rw [cnt_step, cnt_step, ih (fun k hk => h k (by omega)), h n (by omega)]
theorem cntB_up {p q : Nat → Bool} : ∀ (n m : Nat), m < n → (∀ k, k < n → k ≠ m → p k = q k) → p m = true → q m = false → cntB p n = cntB q n + 1 := by
  intro n
  induction n with
  | zero => intro m h; omega
  | succ n ih =>
    intro m hm h hp hq
    rw [cnt_step, cnt_step]
    by_cases e : m = n
    · subst e
      rw [cntB_cg m (fun k hk => h k (by omega) (by omega)), hp, hq]
      rfl
    · rw [ih m (by omega) (fun k hk => h k (by omega)) hp hq, h n (by omega) (fun e2 => e e2.symm)]
      omega
theorem cntS_cg {s t : Int → Int} {st : Int} (n : Nat) (h : ∀ q, 0 ≤ q → q < (n : Int) → (t (72 + 7 * q + 2) = st ↔ s (72 + 7 * q + 2) = st)) : cntS t st n = cntS s st n := by
  unfold cntS
  refine cntB_cg n (fun k hk => ?_)
  rw [decide_eq_decide]
  exact h k (by omega) (by omega)
theorem cntS_up {s t : Int → Int} {st p : Int} (n : Nat) (p0 : 0 ≤ p) (p1 : p < n) (hs : s (72 + 7 * p + 2) ≠ st) (ht : t (72 + 7 * p + 2) = st) (h : ∀ q, 0 ≤ q → q < (n : Int) → q ≠ p → (t (72 + 7 * q + 2) = st ↔ s (72 + 7 * q + 2) = st)) : cntS t st n = cntS s st n + 1 := by
  unfold cntS
  refine cntB_up n p.toNat (by omega) (fun k hk hne => ?_) ?_ ?_
  · rw [decide_eq_decide]
    exact h k (by omega) (by omega) (by omega)
  · rw [decide_eq_true_eq, Int.toNat_of_nonneg p0]
    exact ht
  · rw [decide_eq_false_iff_not, Int.toNat_of_nonneg p0]
    exact hs
/-- the queue without p; with p at its end -/
def qLv (s t : Int → Int) (p : Int) : Prop := t 8 = s 8 - 1 ∧ ∃ m, 0 ≤ m ∧ m < s 8 ∧ s (392 + m) = p ∧ (∀ i, 0 ≤ i → i < m → t (392 + i) = s (392 + i)) ∧ (∀ i, m ≤ i → i < s 8 - 1 → t (392 + i) = s (392 + i + 1))
def qEn (s t : Int → Int) (p : Int) : Prop := t 8 = s 8 + 1 ∧ t (392 + s 8) = p ∧ ∀ i, 0 ≤ i → i < s 8 → t (392 + i) = s (392 + i)
theorem okQ_lv {s t : Int → Int} {p : Int} (h : okQ s) (hq : qLv s t p) (h6 : t 6 = s 6) (hp : t (72 + 7 * p + 2) ≠ 0) (ho : ∀ q, 0 ≤ q → q < s 6 → q ≠ p → t (72 + 7 * q + 2) = s (72 + 7 * q + 2)) : okQ t := by
  obtain ⟨h1, h2, h3⟩ := h
  obtain ⟨e8, m, m0, m1, hm, ha, hb⟩ := hq
  have hv : ∀ i, 0 ≤ i → i < t 8 → ∃ j, 0 ≤ j ∧ j < s 8 ∧ j ≠ m ∧ t (392 + i) = s (392 + j) ∧ (i < m → j = i) ∧ (m ≤ i → j = i + 1) := by
    intro i i0 i1
    by_cases q : i < m
    · exact ⟨i, i0, by omega, by omega, ha i i0 q, fun _ => rfl, fun h9 => by omega⟩
    · exact ⟨i + 1, by omega, by omega, by omega, by rw [hb i (by omega) (by omega), show 392 + i + 1 = 392 + (i + 1) by omega], fun h9 => by omega, fun _ => rfl⟩
  have hne : ∀ j, 0 ≤ j → j < s 8 → j ≠ m → s (392 + j) ≠ p := by
    intro j j0 j1 hj h9
    rcases (by omega : j < m ∨ m < j) with q | q
    · exact h2 j m j0 q m1 (by rw [h9, hm])
    · exact h2 m j m0 q j1 (by rw [h9, hm])
  refine ⟨fun i i0 i1 => ?_, fun i j i0 ij j1 => ?_, fun q q0 q1 hq => ?_⟩
  · obtain ⟨j, j0, j1, jm, e, -, -⟩ := hv i i0 i1
    obtain ⟨a, b, c⟩ := h1 j j0 j1
    rw [e, h6]
    exact ⟨a, b, by rw [ho _ a b (hne j j0 j1 jm)]; exact c⟩
  · obtain ⟨a, a0, a1, am, e, ea, eb⟩ := hv i i0 (by omega)
    obtain ⟨b, b0, b1, bm, f, fa, fb⟩ := hv j (by omega) j1
    rw [e, f]
    exact h2 a b a0 (by omega) b1
  · have hqp : q ≠ p := fun h9 => hp (by rw [← h9]; exact hq)
    rw [ho q q0 (by omega) hqp] at hq
    obtain ⟨i, i0, i1, hi⟩ := h3 q q0 (by omega) hq
    have him : i ≠ m := fun h9 => hqp (by rw [← hi, h9, hm])
    by_cases c : i < m
    · exact ⟨i, i0, by omega, by rw [ha i i0 c]; exact hi⟩
    · exact ⟨i - 1, by omega, by omega, by rw [hb (i - 1) (by omega) (by omega), show 392 + (i - 1) + 1 = 392 + i by omega]; exact hi⟩
theorem okQ_en {s t : Int → Int} {p : Int} (h : okQ s) (hq : qEn s t p) (h8 : 0 ≤ s 8) (h6 : s 6 ≤ t 6) (h6' : ∀ q, s 6 ≤ q → q < t 6 → q = p) (p0 : 0 ≤ p) (p1 : p < t 6) (hp : t (72 + 7 * p + 2) = 0) (hpn : s 6 ≤ p ∨ s (72 + 7 * p + 2) ≠ 0) (ho : ∀ q, 0 ≤ q → q < s 6 → q ≠ p → t (72 + 7 * q + 2) = s (72 + 7 * q + 2)) : okQ t := by
  obtain ⟨h1, h2, h3⟩ := h
  obtain ⟨e8, e9, ha⟩ := hq
  have hne : ∀ j, 0 ≤ j → j < s 8 → s (392 + j) ≠ p := by
    intro j j0 j1 h9
    obtain ⟨a, b, c⟩ := h1 j j0 j1
    rw [h9] at b c
    rcases hpn with hpn | hpn
    · omega
    · exact hpn c
  refine ⟨fun i i0 i1 => ?_, fun i j i0 ij j1 => ?_, fun q q0 q1 hq => ?_⟩
  · by_cases c : i < s 8
    · obtain ⟨a, b, d⟩ := h1 i i0 c
      rw [ha i i0 c]
      exact ⟨a, by omega, by rw [ho _ a b (hne i i0 c)]; exact d⟩
    · rw [show i = s 8 by omega, e9]
      exact ⟨p0, p1, hp⟩
  · by_cases c : j < s 8
    · rw [ha i i0 (by omega), ha j (by omega) c]
      exact h2 i j i0 ij c
    · rw [ha i i0 (by omega), show j = s 8 by omega, e9]
      exact hne i i0 (by omega)
  · by_cases c : q = p
    · exact ⟨s 8, h8, by omega, by rw [e9, c]⟩
    · have hq6 : q < s 6 := by
        apply Classical.byContradiction
        intro h9
        exact c (h6' q (by omega) q1)
      rw [ho q q0 hq6 c] at hq
      obtain ⟨i, i0, i1, hi⟩ := h3 q q0 hq6 hq
      exact ⟨i, i0, by omega, by rw [ha i i0 i1]; exact hi⟩
/-! leaving the quay -/
theorem fLv_ne {s : Int → Int} {p j : Int} (h8 : s 8 ≤ 8) (h : j ≠ 8 ∧ (j < 392 ∨ 400 ≤ j)) : fLv s p j = s j := by
  unfold fLv fLvk
  rw [if_neg h.1, if_neg (by omega)]
theorem fLv_8 {s : Int → Int} {p : Int} : fLv s p 8 = s 8 - 1 := by unfold fLv fLvk; exact if_pos rfl
theorem fLv_q {s : Int → Int} {p : Int} (h8 : s 8 ≤ 8) (h : ∃ i, 0 ≤ i ∧ i < s 8 ∧ s (392 + i) = p) : qLv s (fLv s p) p := by
  obtain ⟨q1, q2, q3⟩ := qps_at h8 h
  refine ⟨fLv_8, qps s p, by omega, q1, q2, fun i i0 i1 => ?_, fun i i0 i1 => ?_⟩
  · unfold fLv fLvk
    rw [if_neg (by omega), if_neg (by omega)]
  · unfold fLv fLvk
    rw [if_neg (by omega), if_pos (by omega)]
theorem qLv_cg {s t u : Int → Int} {p : Int} (h : qLv s t p) (h8 : s 8 ≤ 8) (e : ∀ j, j = 8 ∨ (392 ≤ j ∧ j < 400) → u j = t j) : qLv s u p := by
  obtain ⟨e8, m, m0, m1, hm, ha, hb⟩ := h
  refine ⟨by rw [e 8 (Or.inl rfl)]; exact e8, m, m0, m1, hm, fun i i0 i1 => ?_, fun i i0 i1 => ?_⟩
  · rw [e _ (by omega)]; exact ha i i0 i1
  · rw [e _ (by omega)]; exact hb i i0 i1
theorem vre_lv {s t : Int → Int} {p : Int} (h8 : t 8 ≤ 8) (h : vre s t) : vre s (fLv t p) := by
  intro j hj
  rw [fLv_ne h8 (by unfold vr at hj; omega)]
  exact h j hj
section
variable {s : Int → Int} {D k : Int}
/-- what stays of the parts that a change doesn't touch -/
theorem okT_cg {t : Int → Int} {k' : Int} (h : okT k s) (h4 : t 4 = s 4) (hk : k ≤ k') (e : ∀ c, 0 ≤ c → c < s 4 → -30 ≤ t (12 + 8 * c + 3) ∧ t (12 + 8 * c + 3) ≤ 20 ∧ t (12 + 8 * c + 4) = s (12 + 8 * c + 4) ∧ 0 ≤ t (12 + 8 * c + 5) ∧ t (12 + 8 * c + 5) ≤ s (12 + 8 * c + 5) + (k' - k)) : okT k' t := by
  intro c c0 c1
  rw [h4] at c1
  have h1 := h c c0 c1
  have h2 := e c c0 c1
  omega
theorem okV_cg {t : Int → Int} (h : okV s) (h7 : t 7 = s 7) (e : ∀ o, 0 ≤ o → o < s 7 → t (352 + 4 * o + 3) = s (352 + 4 * o + 3)) : okV t := by
  intro o o0 o1
  rw [h7] at o1
  rw [e o o0 o1]
  exact h o o0 o1
/-- arrive -/
theorem add_ok (hK : okK s) (hD : okD D k s) {g : Int} (g0 : 0 ≤ g) (g1 : g < s 5) (h6 : s 6 < 40) (h8 : s 8 < 8) : same s (fAdd s g) ∧ okD D k (fAdd s g) := by
  obtain ⟨hA, hT, hV, hP, hW, hL, hQ, hN⟩ := hD
  obtain ⟨a1, a2, a3, a4, a5, a6⟩ := hA
  obtain ⟨b1, b2, b3, b4, b5, b6, b7, b8, b9, b10, b11, b12⟩ := hK.1
  have ht : ∀ j, (j < 72 + 7 * s 6 ∨ 72 + 7 * s 6 + 7 ≤ j) ∧ j ≠ 392 + s 8 ∧ j ≠ 8 ∧ j ≠ 6 → fAdd s g j = s j := by
    intro j hj
    unfold fAdd
    simp (disch := first | assumption | omega) only [sset_ne, zro_ne]
  have t6 : fAdd s g 6 = s 6 + 1 := by unfold fAdd; simp (disch := first | assumption | omega) only [sset_ne, sset_eq]
  have t8 : fAdd s g 8 = s 8 + 1 := by unfold fAdd; simp (disch := first | assumption | omega) only [sset_ne, sset_eq]
  have tq : fAdd s g (392 + s 8) = s 6 := by unfold fAdd; simp (disch := first | assumption | omega) only [sset_ne, sset_eq]
  have tp0 : fAdd s g (72 + 7 * s 6) = g := by unfold fAdd; simp (disch := first | assumption | omega) only [sset_ne, sset_eq]
  have tp1 : fAdd s g (72 + 7 * s 6 + 1) = s 0 := by unfold fAdd; simp (disch := first | assumption | omega) only [sset_ne, sset_eq]
  have tp2 : fAdd s g (72 + 7 * s 6 + 2) = 0 := by unfold fAdd; simp (disch := first | assumption | omega) only [sset_ne, zro_in]
  have tp3 : fAdd s g (72 + 7 * s 6 + 3) = -1 := by unfold fAdd; simp (disch := first | assumption | omega) only [sset_ne, sset_eq]
  have tp4 : fAdd s g (72 + 7 * s 6 + 4) = 0 := by unfold fAdd; simp (disch := first | assumption | omega) only [sset_ne, zro_in]
  have tp5 : fAdd s g (72 + 7 * s 6 + 5) = 0 := by unfold fAdd; simp (disch := first | assumption | omega) only [sset_ne, zro_in]
  have tp6 : fAdd s g (72 + 7 * s 6 + 6) = 0 := by unfold fAdd; simp (disch := first | assumption | omega) only [sset_ne, zro_in]
  generalize fAdd s g = t at *
  have hv : vre s t := fun j hj => ht j (by unfold vr at hj; omega)
  have hc : ∀ q, q < s 6 → 0 ≤ q → ∀ i, 0 ≤ i → i < 7 → t (72 + 7 * q + i) = s (72 + 7 * q + i) := fun q q1 q0 i i0 i1 => ht _ (by omega)
  have hc0 : ∀ q, q < s 6 → 0 ≤ q → t (72 + 7 * q) = s (72 + 7 * q) := fun q q1 q0 => ht _ (by omega)
  refine ⟨vre_same hv (by omega) (by omega), ⟨by rw [ht 0 (by omega)]; omega, by rw [ht 0 (by omega)]; omega, by omega, by omega, by omega, by omega⟩, okT_cg hT (ht 4 (by omega)) (Int.le_refl _) (fun c c0 c1 => ?_), okV_cg hV (ht 7 (by omega)) (fun o o0 o1 => ht _ (by omega)), fun q q0 q1 => ?_, fun q q0 q1 => ?_, fun x x0 x1 => ?_, ?_, ?_⟩
  · rw [ht (12 + 8 * c + 3) (by omega), ht (12 + 8 * c + 4) (by omega), ht (12 + 8 * c + 5) (by omega)]
    have := hT c c0 c1
    omega
  · rw [ht 0 (by omega), ht 5 (by omega)]
    by_cases e : q < s 6
    · rw [hc0 q e q0, hc q e q0 1 (by omega) (by omega), hc q e q0 2 (by omega) (by omega), hc q e q0 4 (by omega) (by omega), hc q e q0 5 (by omega) (by omega), hc q e q0 6 (by omega) (by omega)]
      exact hP q q0 e
    · rw [show q = s 6 by omega, tp0, tp1, tp2, tp4, tp5]
      omega
  · rw [ht 4 (by omega)]
    by_cases e : q < s 6
    · rw [hc q e q0 2 (by omega) (by omega), hc q e q0 3 (by omega) (by omega)]
      obtain ⟨h1, h2⟩ := hW q q0 e
      refine ⟨fun h9 => ?_, h2⟩
      obtain ⟨x1, x2, x3, x4⟩ := h1 h9
      rw [ht (12 + 8 * (s (72 + 7 * q + 3) / 24) + 1) (by omega), ht (12 + 8 * (s (72 + 7 * q + 3) / 24) + 2) (by omega), ht (400 + s (72 + 7 * q + 3)) (by omega)]
      exact ⟨x1, x2, x3, x4⟩
    · rw [show q = s 6 by omega, tp2, tp3]
      exact ⟨fun h9 => by omega, fun _ => rfl⟩
  · rw [ht (400 + x) (by omega), t6]
    rcases hL x x0 x1 with h | ⟨h1, h2, h3⟩
    · exact Or.inl h
    · exact Or.inr ⟨h1, by omega, by rw [hc _ h2 h1 3 (by omega) (by omega)]; exact h3⟩
  · refine okQ_en (p := s 6) hQ ⟨t8, tq, fun i i0 i1 => ht _ (by omega)⟩ a5 (by omega) (fun q _ _ => by omega) a3 (by omega) tp2 (Or.inl (Int.le_refl _)) (fun q q0 q1 _ => hc q q1 q0 2 (by omega) (by omega))
  · unfold okN at hN ⊢
    have e6 : (t 6).toNat = (s 6).toNat + 1 := by rw [t6]; omega
    have h2 : ∀ st : Int, st ≠ 0 → cntS t st ((s 6).toNat + 1) = cntS s st (s 6).toNat := by
      intro st hst
      have e1 : cntS t st ((s 6).toNat + 1) = cntS t st (s 6).toNat + (if decide (t (72 + 7 * ((s 6).toNat : Int) + 2) = st) = true then 1 else 0) := rfl
      rw [e1, cntS_cg (s := s) _ (fun q q0 q1 => by rw [hc q (by omega) q0 2 (by omega) (by omega)]), Int.toNat_of_nonneg a3, tp2, decide_eq_false (fun h => hst h.symm), if_neg (by decide)]
      rfl
    rw [ht 9 (by omega), ht 10 (by omega), e6, h2 2 (by decide), h2 3 (by decide)]
    exact hN
end
