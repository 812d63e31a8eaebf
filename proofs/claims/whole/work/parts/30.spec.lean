/-! ===== what the states keep to ===== -/
def okA (D : Int) (s : Int → Int) : Prop := 0 ≤ s 0 ∧ s 0 ≤ D ∧ 0 ≤ s 6 ∧ s 6 ≤ 40 ∧ 0 ≤ s 8 ∧ s 8 ≤ 8
def okB (s : Int → Int) : Prop := 0 ≤ s 1 ∧ s 1 ≤ 999 ∧ 0 ≤ s 2 ∧ s 2 ≤ 999 ∧ -30 ≤ s 3 ∧ s 3 ≤ 40 ∧ 0 ≤ s 4 ∧ s 4 ≤ 3 ∧ 0 ≤ s 5 ∧ s 5 ≤ 6 ∧ 0 ≤ s 7 ∧ s 7 ≤ 10
/-- chambers: what load lays -/
def okC (s : Int → Int) : Prop := ∀ c, 0 ≤ c → c < s 4 → 1 ≤ s (12 + 8 * c + 1) ∧ s (12 + 8 * c + 1) ≤ 6 ∧ 1 ≤ s (12 + 8 * c + 2) ∧ s (12 + 8 * c + 2) ≤ 4 ∧ 1 ≤ s (12 + 8 * c) ∧ s (12 + 8 * c) < 1073741824 ∧ ∀ i : Nat, i < 32 → s (12 + 8 * c + 1) * s (12 + 8 * c + 2) ≤ i → bt (jI (s (12 + 8 * c + 6))) i = false
/-- chambers: what changes -/
def okT (k : Int) (s : Int → Int) : Prop := ∀ c, 0 ≤ c → c < s 4 → -30 ≤ s (12 + 8 * c + 3) ∧ s (12 + 8 * c + 3) ≤ 20 ∧ 0 ≤ s (12 + 8 * c + 4) ∧ s (12 + 8 * c + 4) ≤ 4 * k ∧ 0 ≤ s (12 + 8 * c + 5) ∧ s (12 + 8 * c + 5) ≤ k
def okG (s : Int → Int) : Prop := ∀ g, 0 ≤ g → g < s 5 → -30 ≤ s (36 + 6 * g + 1) ∧ s (36 + 6 * g + 1) ≤ s (36 + 6 * g + 2) ∧ s (36 + 6 * g + 2) ≤ 20 ∧ 1 ≤ s (36 + 6 * g + 3) ∧ s (36 + 6 * g + 3) ≤ 60 ∧ 0 ≤ s (36 + 6 * g + 4) ∧ s (36 + 6 * g + 4) ≤ 9 ∧ 0 ≤ s (36 + 6 * g + 5) ∧ s (36 + 6 * g + 5) ≤ 9 ∧ 1 ≤ s (36 + 6 * g) ∧ s (36 + 6 * g) < 1073741824
def okO (s : Int → Int) : Prop := ∀ o, 0 ≤ o → o < s 7 → 0 ≤ s (352 + 4 * o) ∧ s (352 + 4 * o) < s 5 ∧ 1 ≤ s (352 + 4 * o + 1) ∧ s (352 + 4 * o + 1) ≤ 9 ∧ 0 ≤ s (352 + 4 * o + 2) ∧ s (352 + 4 * o + 2) ≤ 365
def okV (s : Int → Int) : Prop := ∀ o, 0 ≤ o → o < s 7 → 0 ≤ s (352 + 4 * o + 3) ∧ s (352 + 4 * o + 3) ≤ 1
/-- pallets -/
def okP (s : Int → Int) : Prop := ∀ p, 0 ≤ p → p < s 6 → 0 ≤ s (72 + 7 * p) ∧ s (72 + 7 * p) < s 5 ∧ 0 ≤ s (72 + 7 * p + 1) ∧ s (72 + 7 * p + 1) ≤ s 0 ∧ 0 ≤ s (72 + 7 * p + 2) ∧ s (72 + 7 * p + 2) ≤ 3 ∧ 0 ≤ s (72 + 7 * p + 4) ∧ s (72 + 7 * p + 4) ≤ 87000 * s 0 ∧ 0 ≤ s (72 + 7 * p + 5) ∧ s (72 + 7 * p + 5) ≤ 9 * s 0 ∧ (2 ≤ s (72 + 7 * p + 2) → 0 ≤ s (72 + 7 * p + 6) ∧ s (72 + 7 * p + 6) ≤ s 0)
/-- where they are -/
def okW (s : Int → Int) : Prop := ∀ p, 0 ≤ p → p < s 6 → (s (72 + 7 * p + 2) = 1 → 0 ≤ s (72 + 7 * p + 3) ∧ s (72 + 7 * p + 3) / 24 < s 4 ∧ s (72 + 7 * p + 3) % 24 < s (12 + 8 * (s (72 + 7 * p + 3) / 24) + 1) * s (12 + 8 * (s (72 + 7 * p + 3) / 24) + 2) ∧ s (400 + s (72 + 7 * p + 3)) = p) ∧ (s (72 + 7 * p + 2) ≠ 1 → s (72 + 7 * p + 3) = -1)
def okL (s : Int → Int) : Prop := ∀ x, 0 ≤ x → x < 72 → s (400 + x) = -1 ∨ (0 ≤ s (400 + x) ∧ s (400 + x) < s 6 ∧ s (72 + 7 * s (400 + x) + 3) = x)
/-- the quay -/
def okQ (s : Int → Int) : Prop := (∀ i, 0 ≤ i → i < s 8 → 0 ≤ s (392 + i) ∧ s (392 + i) < s 6 ∧ s (72 + 7 * s (392 + i) + 2) = 0) ∧ (∀ i j, 0 ≤ i → i < j → j < s 8 → s (392 + i) ≠ s (392 + j)) ∧ (∀ p, 0 ≤ p → p < s 6 → s (72 + 7 * p + 2) = 0 → ∃ i, 0 ≤ i ∧ i < s 8 ∧ s (392 + i) = p)
/-- how many pallets are in a state -/
def cntS (s : Int → Int) (st : Int) (n : Nat) : Nat := cntB (fun p => decide (s (72 + 7 * (p : Int) + 2) = st)) n
def okN (s : Int → Int) : Prop := s 9 = cntS s 2 (s 6).toNat ∧ s 10 = cntS s 3 (s 6).toNat
/-- what load lays, all of it -/
def okK (s : Int → Int) : Prop := okB s ∧ okC s ∧ okG s ∧ okO s
/-- what the changes change, all of it -/
def okD (D k : Int) (s : Int → Int) : Prop := okA D s ∧ okT k s ∧ okV s ∧ okP s ∧ okW s ∧ okL s ∧ okQ s ∧ okN s
def ok (D k : Int) (s : Int → Int) : Prop := okK s ∧ okD D k s
/-- the same setup -/
def same (s t : Int → Int) : Prop := s 1 = t 1 ∧ s 2 = t 2 ∧ s 3 = t 3 ∧ s 4 = t 4 ∧ s 5 = t 5 ∧ s 7 = t 7 ∧ (∀ c, 0 ≤ c → c < s 4 → s (12 + 8 * c) = t (12 + 8 * c) ∧ s (12 + 8 * c + 1) = t (12 + 8 * c + 1) ∧ s (12 + 8 * c + 2) = t (12 + 8 * c + 2) ∧ s (12 + 8 * c + 6) = t (12 + 8 * c + 6)) ∧ (∀ j, 36 ≤ j → j < 72 → s j = t j) ∧ (∀ o, 0 ≤ o → o < s 7 → s (352 + 4 * o) = t (352 + 4 * o) ∧ s (352 + 4 * o + 1) = t (352 + 4 * o + 1) ∧ s (352 + 4 * o + 2) = t (352 + 4 * o + 2))
theorem same_refl (s : Int → Int) : same s s := ⟨rfl, rfl, rfl, rfl, rfl, rfl, fun _ _ _ => ⟨rfl, rfl, rfl, rfl⟩, fun _ _ _ => rfl, fun _ _ _ => ⟨rfl, rfl, rfl⟩⟩
theorem same_symm {s t : Int → Int} (h : same s t) : same t s := by
  obtain ⟨h1, h2, h3, h4, h5, h7, hc, hg, ho⟩ := h
  refine ⟨h1.symm, h2.symm, h3.symm, h4.symm, h5.symm, h7.symm, fun c a b => ?_, fun j a b => (hg j a b).symm, fun o a b => ?_⟩
  · obtain ⟨e1, e2, e3, e4⟩ := hc c a (by omega)
    exact ⟨e1.symm, e2.symm, e3.symm, e4.symm⟩
  · obtain ⟨e1, e2, e3⟩ := ho o a (by omega)
    exact ⟨e1.symm, e2.symm, e3.symm⟩
theorem same_trans {s t u : Int → Int} (h : same s t) (g : same t u) : same s u := by
  obtain ⟨h1, h2, h3, h4, h5, h7, hc, hg, ho⟩ := h
  obtain ⟨k1, k2, k3, k4, k5, k7, kc, kg, ko⟩ := g
  refine ⟨h1.trans k1, h2.trans k2, h3.trans k3, h4.trans k4, h5.trans k5, h7.trans k7, fun c a b => ?_, fun j a b => (hg j a b).trans (kg j a b), fun o a b => ?_⟩
  · obtain ⟨e1, e2, e3, e4⟩ := hc c a b
    obtain ⟨f1, f2, f3, f4⟩ := kc c a (by omega)
    exact ⟨e1.trans f1, e2.trans f2, e3.trans f3, e4.trans f4⟩
  · obtain ⟨e1, e2, e3⟩ := ho o a b
    obtain ⟨f1, f2, f3⟩ := ko o a (by omega)
    exact ⟨e1.trans f1, e2.trans f2, e3.trans f3⟩
theorem okK_same {s t : Int → Int} (h : okK s) (g : same s t) : okK t := by
  obtain ⟨hB, hC, hG, hO⟩ := h
  obtain ⟨k1, k2, k3, k4, k5, k7, kc, kg, ko⟩ := g
  have hB' := hB
  obtain ⟨b1, b2, b3, b4, b5, b6, b7, b8, b9, b10, b11, b12⟩ := hB'
  refine ⟨?_, fun c a b => ?_, fun g a b => ?_, fun o a b => ?_⟩
  · unfold okB at hB ⊢
    rw [← k1, ← k2, ← k3, ← k4, ← k5, ← k7]
    exact hB
  · obtain ⟨e1, e2, e3, e4⟩ := kc c a (by omega)
    rw [← e1, ← e2, ← e3, ← e4]
    exact hC c a (by omega)
  · have h5 := hG g a (by omega)
    rw [← kg _ (show 36 ≤ 36 + 6 * g by omega) (by omega), ← kg _ (show 36 ≤ 36 + 6 * g + 1 by omega) (by omega), ← kg _ (show 36 ≤ 36 + 6 * g + 2 by omega) (by omega), ← kg _ (show 36 ≤ 36 + 6 * g + 3 by omega) (by omega), ← kg _ (show 36 ≤ 36 + 6 * g + 4 by omega) (by omega), ← kg _ (show 36 ≤ 36 + 6 * g + 5 by omega) (by omega)]
    exact h5
  · obtain ⟨e1, e2, e3⟩ := ko o a (by omega)
    rw [← e1, ← e2, ← e3, ← k5]
    exact hO o a (by omega)
/-! ===== the class's cells and the reference's state ===== -/
def nC (s : Int → Int) (c : Int) : Nat := (gR s c * gC s c).toNat
def drs (s : Int → Int) (c : Int) : Int → Bool := fun k => bt (jI (s (12 + 8 * c + 6))) k.toNat
/-- the setup at the cell u -/
def RU (J : zJ) (u : Nat) (s : Int → Int) : Prop :=
  J u 0 = s 5 ∧ J u 3 = s 4 ∧ J u 6 = s 7 ∧ J u 12 = s 1 ∧ J u 13 = s 2 ∧ J u 14 = s 3 ∧
  (∀ g, 0 ≤ g → g < 6 → J (u + 13 + g.toNat) 0 = g) ∧
  (∀ g, 0 ≤ g → g < s 5 → J (u + 13 + g.toNat) 1 = s (36 + 6 * g) ∧ J (u + 13 + g.toNat) 2 = s (36 + 6 * g + 1) ∧ J (u + 13 + g.toNat) 3 = s (36 + 6 * g + 2) ∧ J (u + 13 + g.toNat) 4 = s (36 + 6 * g + 3) ∧ J (u + 13 + g.toNat) 5 = s (36 + 6 * g + 4) ∧ J (u + 13 + g.toNat) 6 = s (36 + 6 * g + 5)) ∧
  (∀ c, 0 ≤ c → c < s 4 → J (u + 19 + c.toNat) 0 = s (12 + 8 * c) ∧ J (u + 19 + c.toNat) 1 = s (12 + 8 * c + 1) ∧ J (u + 19 + c.toNat) 2 = s (12 + 8 * c + 2) ∧ J (u + 19 + c.toNat) 4 = s (12 + 8 * c + 6) ∧ jI (J (u + 19 + c.toNat) 5) = mk (nC s c) (fun _ => true) ∧ jI (J (u + 19 + c.toNat) 6) = mk (nC s c) (fun k => decide (k % gC s c = 0))) ∧
  (∀ o, 0 ≤ o → o < s 7 → J (u + 5 + 1) o = s (352 + 4 * o) ∧ J (u + 7 + 1) o = s (352 + 4 * o + 1) ∧ J (u + 9 + 1) o = s (352 + 4 * o + 2))
def chOf (x : Int) : Int := if x = -1 then -1 else x / 24
def ceOf (x : Int) : Int := if x = -1 then -1 else x % 24
/-- a stock at the cell b -/
def RS (J : zJ) (b : Nat) (s : Int → Int) : Prop :=
  J b 1 = s 0 ∧ J b 2 = s 6 ∧ J b 11 = s 8 ∧
  (∀ p, 0 ≤ p → p < s 6 → J (b + 1 + 1) p = s (72 + 7 * p) ∧ J (b + 3 + 1) p = s (72 + 7 * p + 2) ∧ J (b + 5 + 1) p = chOf (s (72 + 7 * p + 3)) ∧ J (b + 7 + 1) p = ceOf (s (72 + 7 * p + 3)) ∧ J (b + 9 + 1) p = s (72 + 7 * p + 1) ∧ (1 < s (72 + 7 * p + 2) → J (b + 11 + 1) p = s (72 + 7 * p + 6)) ∧ J (b + 13 + 1) p = s (72 + 7 * p + 4) ∧ J (b + 15 + 1) p = s (72 + 7 * p + 5)) ∧
  (∀ i, 0 ≤ i → i < s 8 → J (b + 17 + 1) i = s (392 + i)) ∧
  (∀ c, 0 ≤ c → c < s 4 → J (b + 19 + 1) c = s (12 + 8 * c + 3) ∧ J (b + 21 + 1) c = s (12 + 8 * c + 4) ∧ J (b + 23 + 1) c = s (12 + 8 * c + 5)) ∧
  (∀ o, 0 ≤ o → o < s 7 → J (b + 25 + 1) o = s (352 + 4 * o + 3))
theorem RS_fr {J J' : zJ} {b : Nat} {s : Int → Int} (h : RS J b s) (e : ∀ r, b ≤ r → r ≤ b + 26 → J' r = J r) : RS J' b s := by
  unfold RS at h ⊢
  rw [e b (by omega) (by omega), e (b + 1 + 1) (by omega) (by omega), e (b + 3 + 1) (by omega) (by omega), e (b + 5 + 1) (by omega) (by omega), e (b + 7 + 1) (by omega) (by omega), e (b + 9 + 1) (by omega) (by omega), e (b + 11 + 1) (by omega) (by omega), e (b + 13 + 1) (by omega) (by omega), e (b + 15 + 1) (by omega) (by omega), e (b + 17 + 1) (by omega) (by omega), e (b + 19 + 1) (by omega) (by omega), e (b + 21 + 1) (by omega) (by omega), e (b + 23 + 1) (by omega) (by omega), e (b + 25 + 1) (by omega) (by omega)]
  exact h
theorem RU_fr {J J' : zJ} {u : Nat} {s : Int → Int} (h : RU J u s) (hK : okK s) (e : ∀ r, u ≤ r → r ≤ u + 21 → J' r = J r) : RU J' u s := by
  obtain ⟨b1, b2, b3, b4, b5, b6, b7, b8, b9, b10, b11, b12⟩ := hK.1
  obtain ⟨h0, h3, h6, h12, h13, h14, hn, hg, hc, ho⟩ := h
  refine ⟨?_, ?_, ?_, ?_, ?_, ?_, fun g a b => ?_, fun g a b => ?_, fun c a b => ?_, fun o a b => ?_⟩
  · rw [e u (by omega) (by omega)]; exact h0
  · rw [e u (by omega) (by omega)]; exact h3
  · rw [e u (by omega) (by omega)]; exact h6
  · rw [e u (by omega) (by omega)]; exact h12
  · rw [e u (by omega) (by omega)]; exact h13
  · rw [e u (by omega) (by omega)]; exact h14
  · rw [e _ (by omega) (by omega)]; exact hn g a b
  · rw [e _ (by omega) (by omega)]; exact hg g a b
  · rw [e _ (by omega) (by omega)]; exact hc c a b
  · rw [e _ (by omega) (by omega), e _ (show u ≤ u + 7 + 1 by omega) (by omega), e _ (show u ≤ u + 9 + 1 by omega) (by omega)]; exact ho o a b
theorem RU_same {J : zJ} {u : Nat} {s t : Int → Int} (h : RU J u s) (hK : okK s) (g : same s t) : RU J u t := by
  obtain ⟨b1, b2, b3, b4, b5, b6, b7, b8, b9, b10, b11, b12⟩ := hK.1
  obtain ⟨k1, k2, k3, k4, k5, k7, kc, kg, ko⟩ := g
  obtain ⟨h0, h3, h6, h12, h13, h14, hn, hg, hc, ho⟩ := h
  refine ⟨by rw [h0, k5], by rw [h3, k4], by rw [h6, k7], by rw [h12, k1], by rw [h13, k2], by rw [h14, k3], hn, fun g a b => ?_, fun c a b => ?_, fun o a b => ?_⟩
  · have h5 := hg g a (by omega)
    rw [kg _ (show 36 ≤ 36 + 6 * g by omega) (by omega), kg _ (show 36 ≤ 36 + 6 * g + 1 by omega) (by omega), kg _ (show 36 ≤ 36 + 6 * g + 2 by omega) (by omega), kg _ (show 36 ≤ 36 + 6 * g + 3 by omega) (by omega), kg _ (show 36 ≤ 36 + 6 * g + 4 by omega) (by omega), kg _ (show 36 ≤ 36 + 6 * g + 5 by omega) (by omega)] at h5
    exact h5
  · obtain ⟨e1, e2, e3, e4⟩ := kc c a (by omega)
    have h5 := hc c a (by omega)
    unfold nC gR gC at h5 ⊢
    rw [e1, e2, e3, e4] at h5
    exact h5
  · obtain ⟨e1, e2, e3⟩ := ko o a (by omega)
    rw [← e1, ← e2, ← e3]
    exact ho o a (by omega)
theorem nC_eq {s : Int → Int} {c : Int} (hK : okK s) (h0 : 0 ≤ c) (h1 : c < s 4) : ((nC s c : Nat) : Int) = gR s c * gC s c ∧ 1 ≤ nC s c ∧ nC s c ≤ 24 ∧ 1 ≤ gR s c ∧ gR s c ≤ 6 ∧ 1 ≤ gC s c ∧ gC s c ≤ 4 ∧ c < 3 := by
  obtain ⟨b1, b2, b3, b4, b5, b6, b7, b8, b9, b10, b11, b12⟩ := hK.1
  obtain ⟨c1, c2, c3, c4, -⟩ := hK.2.1 c h0 h1
  have := gRC (r := gR s c) (c := gC s c) c1 c2 c3 c4
  unfold nC
  exact ⟨Int.toNat_of_nonneg (by omega), by omega, by omega, c1, c2, c3, c4, by omega⟩
theorem ru_ch {J : zJ} {u : Nat} {s : Int → Int} (h : RU J u s) (hK : okK s) {c : Int} (h0 : 0 ≤ c) (h1 : c < s 4) : chG J (u + 19 + c.toNat) (nC s c) (gC s c) ∧ jI (J (u + 19 + c.toNat) 4) = mk (nC s c) (drs s c) := by
  obtain ⟨e, n1, n2, r1, r2, c1, c2, c3⟩ := nC_eq hK h0 h1
  obtain ⟨-, -, -, -, -, -, -, -, hc, -⟩ := h
  obtain ⟨a0, a1, a2, a4, a5, a6⟩ := hc c h0 h1
  refine ⟨⟨n2, c1, c2, a2, a5, a6⟩, mk_ext (by omega) (fun i hi => ?_)⟩
  rw [a4]
  unfold drs
  rw [Int.toNat_natCast]
  by_cases q : i < nC s c
  · rw [decide_eq_true q, Bool.true_and]
  · rw [decide_eq_false q, Bool.false_and]
    obtain ⟨-, -, -, -, -, -, hd⟩ := hK.2.1 c h0 h1
    refine hd i hi ?_
    have e' : ((nC s c : Nat) : Int) = s (12 + 8 * c + 1) * s (12 + 8 * c + 2) := e
    omega
