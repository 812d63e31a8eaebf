/-! ===== the farthest wanted cell ===== -/
section
variable {adj : Int → Int → Bool} {n : Nat} {D O Wn : Int → Bool}
theorem lev_wl {k : Int} (h0 : 0 ≤ k) (h1 : k < n) {i : Nat} (hi : i < 24) : (lev adj n D O i).1 k = true ↔ wl adj n D O k = i + 1 := by
  have hle := zfst_le (fun i => (lev adj n D O i).1 k) 24
  have hy := zfst_yes (fun i => (lev adj n D O i).1 k) 24
  have hno := zfst_no (fun i => (lev adj n D O i).1 k) 24
  have hR := fun i => (lev_R (adj := adj) (n := n) (src := D) (op := O) i).2 k h0 h1
  unfold wl
  constructor
  · intro h
    have h2 : ¬ (i < zfst (fun i => (lev adj n D O i).1 k) 24) := fun h3 => by
      have := hno i h3
      rw [h] at this
      cases this
    have h4 : zfst (fun i => (lev adj n D O i).1 k) 24 < 24 := by omega
    rw [if_pos h4]
    have h5 := (hR _).mp (hy h4)
    have h6 := (hR i).mp h
    have h7 : ¬ (zfst (fun i => (lev adj n D O i).1 k) 24 < i) := fun h8 => h6.2 _ h8 h5.1
    omega
  · intro h
    by_cases h4 : zfst (fun i => (lev adj n D O i).1 k) 24 < 24
    · rw [if_pos h4] at h
      have : zfst (fun i => (lev adj n D O i).1 k) 24 = i := by omega
      rw [← this]
      exact hy h4
    · rw [if_neg h4] at h
      omega
theorem farE_sp : ∀ i : Nat, i ≤ 24 → ((∀ k : Int, farE adj n D O Wn i k = false) ∧ (∀ k : Int, 0 ≤ k → k < n → Wn k = true → ¬ (1 ≤ wl adj n D O k ∧ wl adj n D O k ≤ i))) ∨ ∃ m : Nat, m < i ∧ (∀ k : Int, 0 ≤ k → k < n → (farE adj n D O Wn i k = true ↔ Wn k = true ∧ wl adj n D O k = m + 1)) ∧ (∃ k : Int, 0 ≤ k ∧ k < n ∧ Wn k = true ∧ wl adj n D O k = m + 1) ∧ (∀ k : Int, 0 ≤ k → k < n → Wn k = true → wl adj n D O k ≤ i → wl adj n D O k ≤ m + 1) := by
  intro i
  induction i with
  | zero =>
    intro _
    exact Or.inl ⟨fun k => rfl, fun k _ _ _ h => by omega⟩
  | succ i ih =>
    intro hi
    have ih := ih (by omega)
    have e : farE adj n D O Wn (i + 1) = if zAnyB (fun k => (lev adj n D O i).1 (k : Int) && Wn (k : Int)) n = true then (fun k => (lev adj n D O i).1 k && Wn k) else farE adj n D O Wn i := rfl
    rw [e]
    by_cases c : zAnyB (fun k => (lev adj n D O i).1 (k : Int) && Wn (k : Int)) n = true
    · rw [if_pos c]
      right
      obtain ⟨j, j1, j2⟩ := (zAnyB_iff _ _).mp c
      rw [Bool.and_eq_true] at j2
      refine ⟨i, by omega, fun k k0 k1 => ?_, ⟨j, by omega, by omega, j2.2, (lev_wl (by omega) (by omega) (by omega)).mp j2.1⟩, fun k k0 k1 kw h => by omega⟩
      rw [Bool.and_eq_true, lev_wl k0 k1 (by omega)]
      exact ⟨fun h => ⟨h.2, h.1⟩, fun h => ⟨h.2, h.1⟩⟩
    · rw [if_neg c]
      have hn : ∀ k : Int, 0 ≤ k → k < n → Wn k = true → wl adj n D O k ≠ i + 1 := by
        intro k k0 k1 kw h
        apply c
        rw [zAnyB_iff]
        refine ⟨k.toNat, by omega, ?_⟩
        rw [Int.toNat_of_nonneg k0, (lev_wl k0 k1 (by omega)).mpr h, kw]
        rfl
      rcases ih with ⟨h1, h2⟩ | ⟨m, h1, h2, h3, h4⟩
      · refine Or.inl ⟨h1, fun k k0 k1 kw h => ?_⟩
        have := hn k k0 k1 kw
        have := h2 k k0 k1 kw
        omega
      · refine Or.inr ⟨m, by omega, h2, h3, fun k k0 k1 kw h => ?_⟩
        have := hn k k0 k1 kw
        have := h4 k k0 k1 kw
        omega
theorem farC_sp (hn : n ≤ 24) : (farC adj n D O Wn = -1 ∧ ∀ k : Int, 0 ≤ k → k < n → Wn k = true → wl adj n D O k = -1) ∨ (0 ≤ farC adj n D O Wn ∧ farC adj n D O Wn < n ∧ Wn (farC adj n D O Wn) = true ∧ 1 ≤ wl adj n D O (farC adj n D O Wn) ∧ (∀ k : Int, 0 ≤ k → k < n → Wn k = true → wl adj n D O k ≤ wl adj n D O (farC adj n D O Wn)) ∧ ∀ k : Int, 0 ≤ k → k < farC adj n D O Wn → Wn k = true → wl adj n D O k < wl adj n D O (farC adj n D O Wn)) := by
  have hbd := fun k => wl_bd (adj := adj) (n := n) (src := D) (op := O) k
  have hle := zfst_le (fun k => decide (k < n) && farE adj n D O Wn 24 (k : Int)) 24
  have hy := zfst_yes (fun k => decide (k < n) && farE adj n D O Wn 24 (k : Int)) 24
  have hno := zfst_no (fun k => decide (k < n) && farE adj n D O Wn 24 (k : Int)) 24
  unfold farC
  rcases farE_sp (adj := adj) (n := n) (D := D) (O := O) (Wn := Wn) 24 (Nat.le_refl _) with ⟨h1, h2⟩ | ⟨m, h1, h2, ⟨j, j0, j1, j2, j3⟩, h4⟩
  · left
    have : ¬ (zfst (fun k => decide (k < n) && farE adj n D O Wn 24 (k : Int)) 24 < 24) := fun h => by
      have := hy h
      rw [h1, Bool.and_false] at this
      cases this
    rw [if_neg this]
    refine ⟨rfl, fun k k0 k1 kw => ?_⟩
    have := h2 k k0 k1 kw
    have := hbd k
    omega
  · right
    have hj : (decide (j.toNat < n) && farE adj n D O Wn 24 (j.toNat : Int)) = true := by
      rw [Int.toNat_of_nonneg j0, (h2 j j0 j1).mpr ⟨j2, j3⟩, decide_eq_true (by omega)]
      rfl
    have hlt : zfst (fun k => decide (k < n) && farE adj n D O Wn 24 (k : Int)) 24 < 24 := by
      apply Classical.byContradiction
      intro h
      have := hno j.toNat (by omega)
      rw [hj] at this
      cases this
    rw [if_pos hlt]
    have hz := hy hlt
    generalize zfst (fun k => decide (k < n) && farE adj n D O Wn 24 (k : Int)) 24 = z at *
    rw [Bool.and_eq_true] at hz
    have hzn : z < n := of_decide_eq_true hz.1
    obtain ⟨z1, z2⟩ := (h2 z (by omega) (by omega)).mp hz.2
    refine ⟨by omega, by omega, z1, by omega, fun k k0 k1 kw => ?_, fun k k0 k1 kw => ?_⟩
    · have := h4 k k0 k1 kw (by have := hbd k; omega)
      omega
    · have h5 := h4 k k0 (by omega) kw (by have := hbd k; omega)
      have h6 := hno k.toNat (by omega)
      rw [Int.toNat_of_nonneg k0, decide_eq_true (by omega), Bool.true_and] at h6
      have : wl adj n D O k ≠ m + 1 := fun h => by
        have := (h2 k k0 (by omega)).mpr ⟨kw, h⟩
        rw [h6] at this
        cases this
      omega
end
/-! ===== the best cell for a pallet ===== -/
def fcC (s : Int → Int) (c g : Int) : Int := farC (nb (gC s c)) (nC s c) (drs s c) (frB s c) (saB s c g)
def wyC (s : Int → Int) (c g : Int) : Int := if fcC s c g = -1 then 0 else wayS s c (-1) (fcC s c g)
/-- what a cell is worth -/
def vaC (s : Int → Int) (c g k : Int) : Int := if saB s c g k = true ∧ wayS s c (-1) k ≠ -1 then wayS s c (-1) k else 0
theorem wayS_wl {s : Int → Int} {c : Int} {k : Int} (h0 : 0 ≤ k) (h1 : k < nC s c) : wl (nb (gC s c)) (nC s c) (drs s c) (frB s c) k = wayS s c (-1) k := wl_cg (fun i i0 i1 => ⟨rfl, by unfold frB opn; rw [Bool.or_self]⟩) h0 h1
theorem fcC_sp {s : Int → Int} {c g : Int} (hn : nC s c ≤ 24) : (fcC s c g = -1 ∧ ∀ k : Int, 0 ≤ k → k < nC s c → vaC s c g k = 0) ∨ (0 ≤ fcC s c g ∧ fcC s c g < nC s c ∧ saB s c g (fcC s c g) = true ∧ 1 ≤ wayS s c (-1) (fcC s c g) ∧ (∀ k : Int, 0 ≤ k → k < nC s c → vaC s c g k ≤ wayS s c (-1) (fcC s c g)) ∧ ∀ k : Int, 0 ≤ k → k < fcC s c g → vaC s c g k < wayS s c (-1) (fcC s c g)) := by
  have hw : ∀ k : Int, 0 ≤ k → k < nC s c → wl (nb (gC s c)) (nC s c) (drs s c) (frB s c) k = wayS s c (-1) k := fun k a b => wayS_wl a b
  have key : (fcC s c g = -1 ∧ ∀ k : Int, 0 ≤ k → k < nC s c → saB s c g k = true → wl (nb (gC s c)) (nC s c) (drs s c) (frB s c) k = -1) ∨ (0 ≤ fcC s c g ∧ fcC s c g < nC s c ∧ saB s c g (fcC s c g) = true ∧ 1 ≤ wl (nb (gC s c)) (nC s c) (drs s c) (frB s c) (fcC s c g) ∧ (∀ k : Int, 0 ≤ k → k < nC s c → saB s c g k = true → wl (nb (gC s c)) (nC s c) (drs s c) (frB s c) k ≤ wl (nb (gC s c)) (nC s c) (drs s c) (frB s c) (fcC s c g)) ∧ ∀ k : Int, 0 ≤ k → k < fcC s c g → saB s c g k = true → wl (nb (gC s c)) (nC s c) (drs s c) (frB s c) k < wl (nb (gC s c)) (nC s c) (drs s c) (frB s c) (fcC s c g)) := farC_sp (adj := nb (gC s c)) (n := nC s c) (D := drs s c) (O := frB s c) (Wn := saB s c g) hn
  rcases key with ⟨h1, h2⟩ | ⟨h1, h2, h3, h4, h5, h6⟩
  · refine Or.inl ⟨h1, fun k k0 k1 => ?_⟩
    unfold vaC
    rw [if_neg]
    rintro ⟨x, y⟩
    exact y (by rw [← hw k k0 k1]; exact h2 k k0 k1 x)
  · refine Or.inr ⟨h1, h2, h3, ?_, fun k k0 k1 => ?_, fun k k0 k1 => ?_⟩
    · rw [← hw _ h1 h2]; exact h4
    · unfold vaC
      split
      · rename_i h
        rw [← hw k k0 k1, ← hw _ h1 h2]
        exact h5 k k0 k1 h.1
      · rw [← hw _ h1 h2]; exact Int.le_trans (by decide) h4
    · unfold vaC
      split
      · rename_i h
        rw [← hw k k0 (by omega), ← hw _ h1 h2]
        exact h6 k k0 k1 h.1
      · rw [← hw _ h1 h2]; exact Int.lt_of_lt_of_le (by decide) h4
/-- the cells of a chamber, one after another -/
def blK (s : Int → Int) (c g : Int) (b : Int × Int) : Nat → Int × Int
  | 0 => b
  | n + 1 => if (blK s c g b n).2 < vaC s c g n then (24 * c + n, vaC s c g n) else blK s c g b n
theorem blK_sp {s : Int → Int} {c g : Int} {b : Int × Int} : ∀ n : Nat, (blK s c g b n = b ∧ ∀ j : Nat, j < n → vaC s c g j ≤ b.2) ∨ ∃ j : Nat, j < n ∧ blK s c g b n = (24 * c + j, vaC s c g j) ∧ b.2 < vaC s c g j ∧ (∀ i : Nat, i < n → vaC s c g i ≤ vaC s c g j) ∧ ∀ i : Nat, i < j → vaC s c g i < vaC s c g j := by
  intro n
  induction n with
  | zero => exact Or.inl ⟨rfl, fun j h => by omega⟩
  | succ n ih =>
    unfold blK
    rcases ih with ⟨h1, h2⟩ | ⟨j, h1, h2, h3, h4, h5⟩
    · rw [h1]
      by_cases q : b.2 < vaC s c g n
      · rw [if_pos q]
        refine Or.inr ⟨n, by omega, rfl, q, fun i hi => ?_, fun i hi => ?_⟩
        · by_cases e : i = n
          · rw [e]; exact Int.le_refl _
          · have := h2 i (by omega); omega
        · have := h2 i (by omega); omega
      · rw [if_neg q]
        refine Or.inl ⟨rfl, fun i hi => ?_⟩
        by_cases e : i = n
        · rw [e]; omega
        · exact h2 i (by omega)
    · rw [h2]
      by_cases q : vaC s c g j < vaC s c g n
      · rw [if_pos q]
        refine Or.inr ⟨n, by omega, rfl, by omega, fun i hi => ?_, fun i hi => ?_⟩
        · by_cases e : i = n
          · rw [e]; exact Int.le_refl _
          · have := h4 i (by omega); omega
        · have := h4 i (by omega); omega
      · rw [if_neg q]
        refine Or.inr ⟨j, by omega, rfl, h3, fun i hi => ?_, h5⟩
        by_cases e : i = n
        · rw [e]; omega
        · exact h4 i (by omega)
theorem blK_fc {s : Int → Int} {c g : Int} {b : Int × Int} (hn : nC s c ≤ 24) (hb : 0 ≤ b.2) : blK s c g b (nC s c) = if b.2 < wyC s c g then (24 * c + fcC s c g, wyC s c g) else b := by
  have hva : ∀ k, saB s c g k = true → wayS s c (-1) k ≠ -1 → vaC s c g k = wayS s c (-1) k := fun k x y => if_pos ⟨x, y⟩
  rcases fcC_sp (s := s) (c := c) (g := g) hn with ⟨h1, h2⟩ | ⟨h1, h2, h3, h4, h5, h6⟩
  · have hw : wyC s c g = 0 := if_pos h1
    rw [hw, if_neg (by omega)]
    rcases blK_sp (s := s) (c := c) (g := g) (b := b) (nC s c) with ⟨k1, k2⟩ | ⟨j, k1, k2, k3, k4, k5⟩
    · exact k1
    · have := h2 j (by omega) (by omega); omega
  · have hw : wyC s c g = wayS s c (-1) (fcC s c g) := if_neg (by omega)
    have hv := hva _ h3 (by omega)
    have hf : ((fcC s c g).toNat : Int) = fcC s c g := Int.toNat_of_nonneg h1
    rw [hw]
    rcases blK_sp (s := s) (c := c) (g := g) (b := b) (nC s c) with ⟨k1, k2⟩ | ⟨j, k1, k2, k3, k4, k5⟩
    · have := k2 (fcC s c g).toNat (by omega)
      rw [hf, hv] at this
      rw [if_neg (by omega), k1]
    · have e1 := k4 (fcC s c g).toNat (by omega)
      rw [hf, hv] at e1
      have e2 := h5 j (by omega) (by omega)
      have e3 : (j : Int) = fcC s c g := by
        by_cases q : (j : Int) < fcC s c g
        · have := h6 j (by omega) q; omega
        · by_cases q2 : fcC s c g < (j : Int)
          · have := k5 (fcC s c g).toNat (by omega)
            rw [hf, hv] at this
            omega
          · omega
      rw [if_pos (by omega), k2, e3, hv]
/-- chamber by chamber -/
def bsT (s : Int → Int) (p : Int) : Nat → Int × Int
  | 0 => (-1, 0)
  | n + 1 => if sui s (s (72 + 7 * p)) (s (12 + 8 * (n : Int) + 3)) = true ∧ (bsT s p n).2 < wyC s n (s (72 + 7 * p)) then (24 * (n : Int) + fcC s n (s (72 + 7 * p)), wyC s n (s (72 + 7 * p))) else bsT s p n
theorem wyC_bd {s : Int → Int} {c g : Int} (hn : nC s c ≤ 24) : 0 ≤ wyC s c g ∧ wyC s c g ≤ 24 := by
  have hb := wayS_bd s c (-1) (fcC s c g)
  unfold wyC
  rcases fcC_sp (s := s) (c := c) (g := g) hn with ⟨h1, h2⟩ | ⟨h1, h2, h3, h4, h5, h6⟩
  · rw [if_pos h1]; omega
  · rw [if_neg (by omega)]; omega
/-- what is found -/
theorem bsT_ok {s : Int → Int} (hK : okK s) (p : Int) : ∀ n : Nat, (n : Int) ≤ s 4 → 0 ≤ (bsT s p n).2 ∧ (bsT s p n).2 ≤ 24 ∧ ((bsT s p n).1 = -1 ∨ (0 ≤ (bsT s p n).1 ∧ (bsT s p n).1 / 24 < n ∧ (bsT s p n).1 % 24 < nC s ((bsT s p n).1 / 24) ∧ saB s ((bsT s p n).1 / 24) (s (72 + 7 * p)) ((bsT s p n).1 % 24) = true)) := by
  intro n
  induction n with
  | zero => intro _; exact ⟨Int.le_refl 0, by show (0 : Int) ≤ 24; decide, Or.inl rfl⟩
  | succ n ih =>
    intro hn
    have ih := ih (by omega)
    obtain ⟨en, n1, n2, -⟩ := nC_eq hK (c := n) (by omega) (by omega)
    have hw := wyC_bd (s := s) (c := n) (g := s (72 + 7 * p)) n2
    unfold bsT
    by_cases q : sui s (s (72 + 7 * p)) (s (12 + 8 * (n : Int) + 3)) = true ∧ (bsT s p n).2 < wyC s n (s (72 + 7 * p))
    · rw [if_pos q]
      refine ⟨hw.1, hw.2, Or.inr ?_⟩
      rcases fcC_sp (s := s) (c := n) (g := s (72 + 7 * p)) n2 with ⟨h1, h2⟩ | ⟨h1, h2, h3, h4, h5, h6⟩
      · have : wyC s n (s (72 + 7 * p)) = 0 := if_pos h1
        omega
      · have d1 : (24 * (n : Int) + fcC s n (s (72 + 7 * p))) / 24 = n := by omega
        have d2 : (24 * (n : Int) + fcC s n (s (72 + 7 * p))) % 24 = fcC s n (s (72 + 7 * p)) := by omega
        show 0 ≤ 24 * (n : Int) + fcC s n (s (72 + 7 * p)) ∧ (24 * (n : Int) + fcC s n (s (72 + 7 * p))) / 24 < (n + 1 : Nat) ∧ (24 * (n : Int) + fcC s n (s (72 + 7 * p))) % 24 < nC s ((24 * (n : Int) + fcC s n (s (72 + 7 * p))) / 24) ∧ saB s ((24 * (n : Int) + fcC s n (s (72 + 7 * p))) / 24) (s (72 + 7 * p)) ((24 * (n : Int) + fcC s n (s (72 + 7 * p))) % 24) = true
        rw [d1, d2]
        exact ⟨by omega, by omega, h2, h3⟩
    · rw [if_neg q]
      refine ⟨ih.1, ih.2.1, ?_⟩
      rcases ih.2.2 with h | ⟨h1, h2, h3, h4⟩
      · exact Or.inl h
      · exact Or.inr ⟨h1, by omega, h3, h4⟩

section
variable {W : zW} {J : zJ} {Q : zO → zI → Prop} {k D : Int} {s : Int → Int}
theorem prb_0 {s : Int → Int} {p c cell : Int} (hp : s (72 + 7 * p + 2) = 0) : prb s p c cell = 0 ↔ saB s c (s (72 + 7 * p)) cell = true ∧ wayS s c (-1) cell ≠ -1 := by
  unfold prb saB frB
  rw [if_neg (by omega), Bool.and_eq_true, decide_eq_true_eq]
  by_cases q2 : s (400 + 24 * c + cell) = -1
  · rw [if_neg (by omega)]
    cases q3 : sfB s c cell (s (72 + 7 * p)) (-1)
    · rw [if_pos rfl]
      simp
    · rw [if_neg (by decide)]
      by_cases q4 : wayS s c (-1) cell = -1
      · rw [if_pos q4]
        simp [q4]
      · rw [if_neg q4]
        simp [q2, q4]
  · rw [if_pos q2]
    simp [q2]
/-- the reference's search -/
theorem sp_254 (hK : okK (J 355)) (hD : okD D k (J 355)) {p : Int} (p0 : 0 ≤ p) (p1 : p < J 355 6) (hp : J 355 (72 + 7 * p + 2) = 0) : ∃ x', ∀ Q : zO → zI → Prop, wz W 254 0 [.ref 353, .int (jI p), .float 0, .float 0, .float 0, .float 0] [] (jm J) Q = Q (oI (bsT (J 355) p (J 355 4).toNat).1) (jm (jrow J 358 x')) := by
  have hDD := hD
  obtain ⟨⟨a1, a2, a3, a4, a5, a6⟩, hT, hV, hP, hW, hL, hQ, hN⟩ := hD
  obtain ⟨b1, b2x, b3, b4, b5, b6, b7, b8, b9, b10, b11, b12⟩ := hK.1
  obtain ⟨q1, q2, -⟩ := hP p p0 p1
  have e55 : ∀ x, jrow J 358 x 355 = J 355 := fun x => jrow_ne (by decide)
  have key : ∀ m : Nat, m ≤ (J 355 4).toNat → ∀ (x5 : Value) (x : Int → Int), ∃ x', ∀ Q : zO → zI → Prop, wz W 254 7 [.ref 353, .int (jI p), .int (jI (bsT (J 355) p ((J 355 4).toNat - m)).1), .int (jI (bsT (J 355) p ((J 355 4).toNat - m)).2), .int (jI ((J 355 4).toNat - m : Nat)), x5] [] (jm (jrow J 358 x)) Q = Q (oI (bsT (J 355) p (J 355 4).toNat).1) (jm (jrow J 358 x')) := by
    intro m
    induction m with
    | zero =>
      intro _ x5 x
      refine ⟨x, fun Q => ?_⟩
      rw [sg_254_7]
      simp (disch := first | assumption | omega) only [e55, zk_l, zk_r, Option.toList_some, Option.toList_none, List.cons_append, List.nil_append, zrokB, zrokB0, zrokB1, zrokJ0, zrokJ1, and_true, true_and, and_self, if_true, if_false, b2_0, b2_1, b2_not, ite_self, Int.add_zero, jI_nat, jI_add, jI_sub, jI_mul, jI_neg, jI_lt, jI_le, jI_eq, jI_lt0, jI_0lt, jI_le0, jI_0le, jI_eq0, jI_in, jI_dv, i_mod, jI_cl, jm_n, jz_n, i_lit, i_c0, i_c1, Int.toNat_of_nonneg, Int.toNat_natCast, jrow_same, jrow_ne, jrow_jrow, sset_eq, sset_ne]
      rw [if_pos (by omega), Nat.sub_zero]
    | succ m ih =>
      intro hm x5 x
      have ih := ih (by omega)
      have hl : (J 355 4).toNat - m = ((J 355 4).toNat - (m + 1)) + 1 := by omega
      rw [hl] at ih
      have hi : ((J 355 4).toNat - (m + 1) : Nat) < (J 355 4).toNat := by omega
      generalize (J 355 4).toNat - (m + 1) = i at *
      obtain ⟨en, n1, n2, rr1, rr2, w1, w2, c3⟩ := nC_eq hK (c := i) (by omega) (by omega)
      have hta := hT i (by omega) (by omega)
      obtain ⟨u1, u2, u3⟩ := bsT_ok hK p i (by omega)
      have hst : bsT (J 355) p (i + 1) = if sui (J 355) (J 355 (72 + 7 * p)) (J 355 (12 + 8 * (i : Int) + 3)) = true ∧ (bsT (J 355) p i).2 < wyC (J 355) i (J 355 (72 + 7 * p)) then (24 * (i : Int) + fcC (J 355) i (J 355 (72 + 7 * p)), wyC (J 355) i (J 355 (72 + 7 * p))) else bsT (J 355) p i := rfl
      have hbk := blK_fc (s := J 355) (c := i) (g := J 355 (72 + 7 * p)) (b := bsT (J 355) p i) n2 u1
      have hb1 : -1 ≤ (bsT (J 355) p i).1 ∧ (bsT (J 355) p i).1 < 72 := by omega
      generalize bsT (J 355) p i = b at *
      have next : ∀ (r : Int × Int) (x5 : Int32) (x : Int → Int), bsT (J 355) p (i + 1) = r → ∃ x', ∀ Q : zO → zI → Prop, wz W 254 98 [.ref 353, .int (jI p), .int (jI r.1), .int (jI r.2), .int (jI i), .int x5] [] (jm (jrow J 358 x)) Q = Q (oI (bsT (J 355) p (J 355 4).toNat).1) (jm (jrow J 358 x')) := by
        intro r x5 x hr
        rw [hr] at ih
        obtain ⟨x', hx'⟩ := ih (.int x5) x
        refine ⟨x', fun Q => ?_⟩
        rw [sg_254_98, jI_add]
        exact hx' Q
      have head : ∀ (r : Int × Int) (l : Nat) (x : Int → Int) (Q : zO → zI → Prop), l < nC (J 355) i → wz W 254 21 [.ref 353, .int (jI p), .int (jI r.1), .int (jI r.2), .int (jI i), .int (jI l)] [] (jm (jrow J 358 x)) Q = wz W 254 49 [.ref 353, .int (jI p), .int (jI r.1), .int (jI r.2), .int (jI i), .int (jI l)] [.int (b2 (sui (J 355) (J 355 (72 + 7 * p)) (J 355 (12 + 8 * (i : Int) + 3))))] (jm (jrow J 358 x)) Q := by
        intro r l x Q hl
        rw [sg_254_21, sp_225k (J := jrow J 358 x) (by rw [e55]; exact hK) (by omega) (by rw [e55]; omega), e55]
        simp only [zk_l, zk_r, Option.toList_some, Option.toList_none, List.cons_append, List.nil_append, zrokB, zrokB0, zrokB1, zrokJ0, zrokJ1, and_true, true_and, and_self, if_true, if_false, b2_0, b2_1, b2_not, ite_self]
        rw [sg_254_29, if_neg (by rw [jI_le (by omega) (by omega) (by omega) (by omega)]; omega), sp_221 (c := p) (k := 0) (by omega) (by omega) (by omega), e55]
        simp only [Int.add_zero, zk_l, zk_r, Option.toList_some, Option.toList_none, List.cons_append, List.nil_append, zrokB, zrokB0, zrokB1, zrokJ0, zrokJ1, and_true, true_and, and_self, if_true, if_false, b2_0, b2_1, b2_not, ite_self]
        rw [sg_254_39, sp_219 (c := (i : Int)) (k := 3) (by omega) (by omega) (by omega) (by omega), e55]
        simp only [zk_l, zk_r, Option.toList_some, Option.toList_none, List.cons_append, List.nil_append, zrokB, zrokB0, zrokB1, zrokJ0, zrokJ1, and_true, true_and, and_self, if_true, if_false, b2_0, b2_1, b2_not, ite_self]
        rw [sg_254_46, sp_253 (by rw [e55]; exact hK) q1 (by rw [e55]; exact q2) (by omega) (by omega), e55]
        simp only [zk_l, zk_r, Option.toList_some, Option.toList_none, List.cons_append, List.nil_append, zrokB, zrokB0, zrokB1, zrokJ0, zrokJ1, and_true, true_and, and_self, if_true, if_false, b2_0, b2_1, b2_not, ite_self]
      have start : ∀ Q : zO → zI → Prop, wz W 254 7 [.ref 353, .int (jI p), .int (jI b.1), .int (jI b.2), .int (jI i), x5] [] (jm (jrow J 358 x)) Q = wz W 254 21 [.ref 353, .int (jI p), .int (jI b.1), .int (jI b.2), .int (jI i), .int (jI (0 : Nat))] [] (jm (jrow J 358 x)) Q := by
        intro Q
        rw [sg_254_7]
        simp (disch := first | assumption | omega) only [e55, zk_l, zk_r, Option.toList_some, Option.toList_none, List.cons_append, List.nil_append, zrokB, zrokB0, zrokB1, zrokJ0, zrokJ1, and_true, true_and, and_self, if_true, if_false, b2_0, b2_1, b2_not, ite_self, Int.add_zero, jI_nat, jI_add, jI_sub, jI_mul, jI_neg, jI_lt, jI_le, jI_eq, jI_lt0, jI_0lt, jI_le0, jI_0le, jI_eq0, jI_in, jI_dv, i_mod, jI_cl, jm_n, jz_n, i_lit, i_c0, i_c1, Int.toNat_of_nonneg, Int.toNat_natCast, jrow_same, jrow_ne, jrow_jrow, sset_eq, sset_ne]
        rw [if_neg (by omega)]
      cases hs : sui (J 355) (J 355 (72 + 7 * p)) (J 355 (12 + 8 * (i : Int) + 3))
      · obtain ⟨x', hx'⟩ := next b (jI (0 : Nat)) x (by rw [hst, hs, if_neg (by simp)])
        refine ⟨x', fun Q => ?_⟩
        rw [start, head b 0 x Q (by omega), hs, sg_254_49, if_pos (by decide)]
        exact hx' Q
      · have hst2 : bsT (J 355) p (i + 1) = blK (J 355) i (J 355 (72 + 7 * p)) b (nC (J 355) i) := by
          rw [hst, hs, hbk]
          simp
        have cells : ∀ l : Nat, l ≤ nC (J 355) i → ∀ x : Int → Int, ∃ x', ∀ Q : zO → zI → Prop, wz W 254 21 [.ref 353, .int (jI p), .int (jI (blK (J 355) i (J 355 (72 + 7 * p)) b (nC (J 355) i - l)).1), .int (jI (blK (J 355) i (J 355 (72 + 7 * p)) b (nC (J 355) i - l)).2), .int (jI i), .int (jI (nC (J 355) i - l : Nat))] [] (jm (jrow J 358 x)) Q = Q (oI (bsT (J 355) p (J 355 4).toNat).1) (jm (jrow J 358 x')) := by
          intro l
          induction l with
          | zero =>
            intro _ x
            obtain ⟨x', hx'⟩ := next _ (jI (nC (J 355) i)) x hst2
            refine ⟨x', fun Q => ?_⟩
            rw [Nat.sub_zero, sg_254_21, sp_225k (J := jrow J 358 x) (by rw [e55]; exact hK) (by omega) (by rw [e55]; omega), e55]
            simp only [zk_l, zk_r, Option.toList_some, Option.toList_none, List.cons_append, List.nil_append, zrokB, zrokB0, zrokB1, zrokJ0, zrokJ1, and_true, true_and, and_self, if_true, if_false, b2_0, b2_1, b2_not, ite_self]
            rw [sg_254_29, if_pos (Int32.le_refl _)]
            exact hx' Q
          | succ l ih2 =>
            intro hl2 x
            have ih2 := ih2 (by omega)
            have hl3 : nC (J 355) i - l = (nC (J 355) i - (l + 1)) + 1 := by omega
            rw [hl3] at ih2
            have hl4 : nC (J 355) i - (l + 1) < nC (J 355) i := by omega
            generalize nC (J 355) i - (l + 1) = j at *
            have hbl : blK (J 355) i (J 355 (72 + 7 * p)) b (j + 1) = if (blK (J 355) i (J 355 (72 + 7 * p)) b j).2 < vaC (J 355) i (J 355 (72 + 7 * p)) j then (24 * (i : Int) + j, vaC (J 355) i (J 355 (72 + 7 * p)) j) else blK (J 355) i (J 355 (72 + 7 * p)) b j := rfl
            have hwb := wayS_bd (J 355) i (-1) j
            have hr2 : 0 ≤ (blK (J 355) i (J 355 (72 + 7 * p)) b j).2 ∧ (blK (J 355) i (J 355 (72 + 7 * p)) b j).2 ≤ 24 := by
              rcases blK_sp (s := J 355) (c := i) (g := J 355 (72 + 7 * p)) (b := b) j with ⟨k1, -⟩ | ⟨y, -, k2, -⟩
              · rw [k1]; omega
              · rw [k2]
                show 0 ≤ vaC (J 355) i (J 355 (72 + 7 * p)) y ∧ vaC (J 355) i (J 355 (72 + 7 * p)) y ≤ 24
                have := wayS_bd (J 355) i (-1) y
                unfold vaC
                split <;> omega
            generalize blK (J 355) i (J 355 (72 + 7 * p)) b j = r at *
            have hpb : 0 ≤ prb (J 355) p i j ∧ prb (J 355) p i j ≤ 4 := by
              unfold prb
              split
              · omega
              · split
                · omega
                · split
                  · omega
                  · split <;> omega
            obtain ⟨f, f1, f2⟩ := sp_243 (W := W) (J := jrow J 358 x) (D := D) (k := k) (p := p) (c := i) (cell := j) (by rw [e55]; exact hK) (by rw [e55]; exact hDD) p0 (by rw [e55]; exact p1) (by omega) (by rw [e55]; omega) (by omega) (by rw [e55]; omega)
            rw [e55] at f1 f2
            rw [jrow_jrow] at f2
            have h0 := prb_0 (c := i) (cell := j) hp
            have back : ∀ (r' : Int × Int), blK (J 355) i (J 355 (72 + 7 * p)) b (j + 1) = r' → ∃ x', ∀ Q : zO → zI → Prop, wz W 254 92 [.ref 353, .int (jI p), .int (jI r'.1), .int (jI r'.2), .int (jI i), .int (jI j)] [] (jm (jrow J 358 f)) Q = Q (oI (bsT (J 355) p (J 355 4).toNat).1) (jm (jrow J 358 x')) := by
              intro r' hr
              rw [hr] at ih2
              obtain ⟨x', hx'⟩ := ih2 f
              refine ⟨x', fun Q => ?_⟩
              rw [sg_254_92, jI_add]
              exact hx' Q
            have run : ∀ Q : zO → zI → Prop, wz W 254 21 [.ref 353, .int (jI p), .int (jI r.1), .int (jI r.2), .int (jI i), .int (jI j)] [] (jm (jrow J 358 x)) Q = wz W 254 61 [.ref 353, .int (jI p), .int (jI r.1), .int (jI r.2), .int (jI i), .int (jI j)] [.int (jI (prb (J 355) p i j))] (jm (jrow J 358 f)) Q := by
              intro Q
              rw [head r j x Q hl4, hs, sg_254_49, if_neg (by decide), f2]
              simp only [zk_l, zk_r, Option.toList_some, Option.toList_none, List.cons_append, List.nil_append, zrokB, zrokB0, zrokB1, zrokJ0, zrokJ1, and_true, true_and, and_self, if_true, if_false, b2_0, b2_1, b2_not, ite_self]
            by_cases z : prb (J 355) p i j = 0
            · have hv : vaC (J 355) i (J 355 (72 + 7 * p)) j = wayS (J 355) i (-1) j := if_pos (h0.mp z)
              have hne := (h0.mp z).2
              have hf := f1 z
              rw [hv] at hbl
              have hfm : ∀ Q : zO → zI → Prop, wz W 254 61 [.ref 353, .int (jI p), .int (jI r.1), .int (jI r.2), .int (jI i), .int (jI j)] [.int (jI (prb (J 355) p i j))] (jm (jrow J 358 f)) Q = if wayS (J 355) i (-1) j ≤ r.2 then wz W 254 92 [.ref 353, .int (jI p), .int (jI r.1), .int (jI r.2), .int (jI i), .int (jI j)] [] (jm (jrow J 358 f)) Q else wz W 254 92 [.ref 353, .int (jI p), .int (jI (24 * (i : Int) + j)), .int (jI (wayS (J 355) i (-1) j)), .int (jI i), .int (jI j)] [] (jm (jrow J 358 f)) Q := by
                intro Q
                rw [sg_254_61, z, if_pos (by decide)]
                simp (disch := first | assumption | omega) only [hf, zk_l, zk_r, Option.toList_some, Option.toList_none, List.cons_append, List.nil_append, zrokB, zrokB0, zrokB1, zrokJ0, zrokJ1, and_true, true_and, and_self, if_true, if_false, b2_0, b2_1, b2_not, ite_self, Int.add_zero, jI_nat, jI_add, jI_sub, jI_mul, jI_neg, jI_lt, jI_le, jI_eq, jI_lt0, jI_0lt, jI_le0, jI_0le, jI_eq0, jI_in, jI_dv, i_mod, jI_cl, jm_n, jz_n, i_lit, i_c0, i_c1, Int.toNat_of_nonneg, Int.toNat_natCast, jrow_same, jrow_ne, jrow_jrow, sset_eq, sset_ne]
              by_cases q : wayS (J 355) i (-1) j ≤ r.2
              · obtain ⟨x', hx'⟩ := back r (by rw [hbl, if_neg (by omega)])
                refine ⟨x', fun Q => ?_⟩
                rw [run, hfm, if_pos q]
                exact hx' Q
              · obtain ⟨x', hx'⟩ := back (24 * (i : Int) + j, wayS (J 355) i (-1) j) (by rw [hbl, if_pos (by omega)])
                refine ⟨x', fun Q => ?_⟩
                rw [run, hfm, if_neg q]
                exact hx' Q
            · have hv : vaC (J 355) i (J 355 (72 + 7 * p)) j = 0 := if_neg (fun h => z (h0.mpr h))
              obtain ⟨x', hx'⟩ := back r (by rw [hbl, hv, if_neg (by omega)])
              refine ⟨x', fun Q => ?_⟩
              rw [run, sg_254_61, if_neg (by rw [jI_eq0 (by omega) (by omega)]; exact z)]
              exact hx' Q
        obtain ⟨x', hx'⟩ := cells (nC (J 355) i) (Nat.le_refl _) x
        rw [Nat.sub_self] at hx'
        exact ⟨x', fun Q => (start Q).trans (hx' Q)⟩
  obtain ⟨x', hx'⟩ := key (J 355 4).toNat (Nat.le_refl _) (.float 0) (J 358)
  rw [Nat.sub_self, jrow_id] at hx'
  refine ⟨x', fun Q => ?_⟩
  rw [sg_254_0]
  exact hx' Q
/-- the class's search, and its storing -/
theorem sp_171 (h : CX J 76 s D k) {p : Int} (p0 : 0 ≤ p) (p1 : p < s 6) (hp : s (72 + 7 * p + 2) = 0) : ∃ J', (∀ Q : zO → zI → Prop, wz W 171 0 [.ref 0, .int (jI p), .float 0, .float 0, .float 0, .float 0, .float 0, .float 0, .float 0] [] (jm J) Q = Q (oI (if (bsT s p (s 4).toNat).1 = -1 then 0 else 1)) (jm J')) ∧ RS J' 76 (if (bsT s p (s 4).toNat).1 = -1 then s else fStore s p ((bsT s p (s 4).toNat).1 / 24) ((bsT s p (s 4).toNat).1 % 24)) ∧ ∀ r, (r < 76 ∨ 76 + 27 ≤ r) → J' r = J r := by
  have h' := h
  obtain ⟨hb, hS, hU, hK, ⟨⟨a1, a2, a3, a4, a5, a6⟩, hT, hV, hP, hW, hL, hQ, hN⟩, hD, hk⟩ := h
  obtain ⟨b1, b2x, b3, b4, b5, b6, b7, b8, b9, b10, b11, b12⟩ := hK.1
  obtain ⟨q1, q2, -⟩ := hP p p0 p1
  obtain ⟨e1, -⟩ := RS_p hS p0 p1
  obtain ⟨g0, hgd, -⟩ := RU_g hU hK q1 q2
  have hu : jm J 5 3 = jI (s 4) := congrArg jI hU.2.1
  have hch : ∀ x, -1 ≤ x → x < 72 → -1 ≤ chOf x ∧ chOf x < 3 ∧ -1 ≤ ceOf x ∧ ceOf x < 24 := by
    intro x x0 x1
    unfold chOf ceOf
    split <;> omega
  have key : ∀ m : Nat, m ≤ (s 4).toNat → ∀ (x7 x8 : Value), ∃ x7' x8', ∀ Q : zO → zI → Prop, wz W 171 23 [.ref 0, .int (jI p), .int (jI (s (72 + 7 * p))), .int (jI (bsT s p ((s 4).toNat - m)).2), .int (jI (chOf (bsT s p ((s 4).toNat - m)).1)), .int (jI (ceOf (bsT s p ((s 4).toNat - m)).1)), .int (jI ((s 4).toNat - m : Nat)), x7, x8] [] (jm J) Q = wz W 171 23 [.ref 0, .int (jI p), .int (jI (s (72 + 7 * p))), .int (jI (bsT s p (s 4).toNat).2), .int (jI (chOf (bsT s p (s 4).toNat).1)), .int (jI (ceOf (bsT s p (s 4).toNat).1)), .int (jI (s 4)), x7', x8'] [] (jm J) Q := by
    intro m
    induction m with
    | zero =>
      intro _ x7 x8
      refine ⟨x7, x8, fun Q => ?_⟩
      rw [Nat.sub_zero, Int.toNat_of_nonneg b7]
    | succ m ih =>
      intro hm x7 x8
      have ih := ih (by omega)
      have hl : (s 4).toNat - m = ((s 4).toNat - (m + 1)) + 1 := by omega
      rw [hl] at ih
      have hi : ((s 4).toNat - (m + 1) : Nat) < (s 4).toNat := by omega
      generalize (s 4).toNat - (m + 1) = i at *
      obtain ⟨en, n1, n2, rr1, rr2, w1, w2, c3⟩ := nC_eq hK (c := i) (by omega) (by omega)
      obtain ⟨hG, hdr⟩ := ru_ch hU hK (c := i) (by omega) (by omega)
      have hcb : zChb (5 + 19 + (i : Int).toNat) := zStp_c zStp_5 (by omega)
      have hta := hT i (by omega) (by omega)
      obtain ⟨u1, u2, u3⟩ := bsT_ok hK p i (by omega)
      obtain ⟨f1, -⟩ := hS.2.2.2.2.2.1 i (by omega) (by omega)
      have hst : bsT s p (i + 1) = if sui s (s (72 + 7 * p)) (s (12 + 8 * (i : Int) + 3)) = true ∧ (bsT s p i).2 < wyC s i (s (72 + 7 * p)) then (24 * (i : Int) + fcC s i (s (72 + 7 * p)), wyC s i (s (72 + 7 * p))) else bsT s p i := rfl
      have hb1 : -1 ≤ (bsT s p i).1 ∧ (bsT s p i).1 < 72 := by omega
      have hwy := wyC_bd (s := s) (c := i) (g := s (72 + 7 * p)) n2
      have hfs := fcC_sp (s := s) (c := i) (g := s (72 + 7 * p)) n2
      generalize bsT s p i = b at *
      have hcc := hch b.1 hb1.1 hb1.2
      have next : ∀ (x7 x8 : Value), bsT s p (i + 1) = b → ∃ x7' x8', ∀ Q : zO → zI → Prop, wz W 171 134 [.ref 0, .int (jI p), .int (jI (s (72 + 7 * p))), .int (jI b.2), .int (jI (chOf b.1)), .int (jI (ceOf b.1)), .int (jI i), x7, x8] [] (jm J) Q = wz W 171 23 [.ref 0, .int (jI p), .int (jI (s (72 + 7 * p))), .int (jI (bsT s p (s 4).toNat).2), .int (jI (chOf (bsT s p (s 4).toNat).1)), .int (jI (ceOf (bsT s p (s 4).toNat).1)), .int (jI (s 4)), x7', x8'] [] (jm J) Q := by
        intro x7 x8 hr
        rw [hr] at ih
        obtain ⟨y7, y8, hy⟩ := ih x7 x8
        refine ⟨y7, y8, fun Q => ?_⟩
        rw [sg_171_134, jI_add]
        exact hy Q
      have start : ∀ Q : zO → zI → Prop, wz W 171 23 [.ref 0, .int (jI p), .int (jI (s (72 + 7 * p))), .int (jI b.2), .int (jI (chOf b.1)), .int (jI (ceOf b.1)), .int (jI i), x7, x8] [] (jm J) Q = wz W 171 58 [.ref 0, .int (jI p), .int (jI (s (72 + 7 * p))), .int (jI b.2), .int (jI (chOf b.1)), .int (jI (ceOf b.1)), .int (jI i), x7, x8] [.int (b2 (sui s (s (72 + 7 * p)) (s (12 + 8 * (i : Int) + 3))))] (jm J) Q := by
        intro Q
        rw [sg_171_23, hu, if_neg (by rw [jI_le (by omega) (by omega) (by omega) (by omega)]; omega), sp_52 zStp_5 q1 g0]
        simp only [zk_l, zk_r, Option.toList_some, Option.toList_none, List.cons_append, List.nil_append, zrokB, zrokB0, zrokB1, zrokJ0, zrokJ1, and_true, true_and, and_self, if_true, if_false, b2_0, b2_1, b2_not, ite_self]
        rw [sg_171_43 (hqt0 := hgd), sp_45 (zStk_r13 hb) (by omega) (by omega) (by decide), f1]
        simp only [zk_l, zk_r, Option.toList_some, Option.toList_none, List.cons_append, List.nil_append, zrokB, zrokB0, zrokB1, zrokJ0, zrokJ1, and_true, true_and, and_self, if_true, if_false, b2_0, b2_1, b2_not, ite_self]
        rw [sg_171_55 (hqt0 := hgd), sp_11s hU hK q1 q2 (by omega) (by omega)]
        simp only [zk_l, zk_r, Option.toList_some, Option.toList_none, List.cons_append, List.nil_append, zrokB, zrokB0, zrokB1, zrokJ0, zrokJ1, and_true, true_and, and_self, if_true, if_false, b2_0, b2_1, b2_not, ite_self]
      cases hs : sui s (s (72 + 7 * p)) (s (12 + 8 * (i : Int) + 3))
      · obtain ⟨y7, y8, hy⟩ := next x7 x8 (by rw [hst, hs, if_neg (by simp)])
        refine ⟨y7, y8, fun Q => ?_⟩
        rw [start, hs, sg_171_58, if_pos (by decide)]
        exact hy Q
      · have run : ∀ Q : zO → zI → Prop, wz W 171 23 [.ref 0, .int (jI p), .int (jI (s (72 + 7 * p))), .int (jI b.2), .int (jI (chOf b.1)), .int (jI (ceOf b.1)), .int (jI i), x7, x8] [] (jm J) Q = wz W 171 115 [.ref 0, .int (jI p), .int (jI (s (72 + 7 * p))), .int (jI b.2), .int (jI (chOf b.1)), .int (jI (ceOf b.1)), .int (jI i), .int (jI (fcC s i (s (72 + 7 * p)))), x8] [.int (jI (wyC s i (s (72 + 7 * p))))] (jm J) Q := by
          intro Q
          rw [start, hs, sg_171_58, if_neg (by decide), sp_53 zStp_5 (by omega) c3]
          simp only [zk_l, zk_r, Option.toList_some, Option.toList_none, List.cons_append, List.nil_append, zrokB, zrokB0, zrokB1, zrokJ0, zrokJ1, and_true, true_and, and_self, if_true, if_false, b2_0, b2_1, b2_not, ite_self]
          rw [sg_171_70 (hqt0 := hcb), sp_77 h' (by omega) (by omega)]
          simp only [zk_l, zk_r, Option.toList_some, Option.toList_none, List.cons_append, List.nil_append, zrokB, zrokB0, zrokB1, zrokJ0, zrokJ1, and_true, true_and, and_self, if_true, if_false, b2_0, b2_1, b2_not, ite_self]
          rw [sg_171_79 (hqt0 := hcb), sp_78 h' (by omega) (by omega) q1 q2]
          simp only [zk_l, zk_r, Option.toList_some, Option.toList_none, List.cons_append, List.nil_append, zrokB, zrokB0, zrokB1, zrokJ0, zrokJ1, and_true, true_and, and_self, if_true, if_false, b2_0, b2_1, b2_not, ite_self]
          rw [sg_171_89 (hqt0 := hcb), sp_6 hcb hG hdr]
          simp only [zk_l, zk_r, Option.toList_some, Option.toList_none, List.cons_append, List.nil_append, zrokB, zrokB0, zrokB1, zrokJ0, zrokJ1, and_true, true_and, and_self, if_true, if_false, b2_0, b2_1, b2_not, ite_self]
          show wz W 171 92 _ [.int (jI (fcC s i (s (72 + 7 * p))))] _ _ = _
          rw [sg_171_92]
          unfold wyC
          rcases hfs with ⟨k1, k2⟩ | ⟨k1, k2, k3, k4, k5, k6⟩
          · rw [if_pos (by rw [k1]), if_pos k1]
          · have hfr : s (400 + 24 * (i : Int) + fcC s i (s (72 + 7 * p))) = -1 := by
              unfold saB frB at k3
              rw [Bool.and_eq_true] at k3
              exact of_decide_eq_true k3.1
            rw [if_neg (by rw [jI_eq (by omega) (by omega) (by omega) (by omega)]; omega), if_neg (by omega), sp_79 h' (by omega) (by omega) k1 k2, wayC_free hK (by omega) (by omega) k1 k2 hfr]
            simp only [zk_l, zk_r, Option.toList_some, Option.toList_none, List.cons_append, List.nil_append, zrokB, zrokB0, zrokB1, zrokJ0, zrokJ1, and_true, true_and, and_self, if_true, if_false, b2_0, b2_1, b2_not, ite_self]
        by_cases q : b.2 < wyC s i (s (72 + 7 * p))
        · have hr : bsT s p (i + 1) = (24 * (i : Int) + fcC s i (s (72 + 7 * p)), wyC s i (s (72 + 7 * p))) := by rw [hst, hs, if_pos ⟨rfl, q⟩]
          rw [hr] at ih
          have hf0 : 0 ≤ fcC s i (s (72 + 7 * p)) ∧ fcC s i (s (72 + 7 * p)) < 24 := by
            rcases hfs with ⟨k1, k2⟩ | ⟨k1, k2, -⟩
            · have : wyC s i (s (72 + 7 * p)) = 0 := if_pos k1
              omega
            · omega
          have hc1 : chOf (24 * (i : Int) + fcC s i (s (72 + 7 * p))) = i := by unfold chOf; rw [if_neg (by omega)]; omega
          have hc2 : ceOf (24 * (i : Int) + fcC s i (s (72 + 7 * p))) = fcC s i (s (72 + 7 * p)) := by unfold ceOf; rw [if_neg (by omega)]; omega
          obtain ⟨y7, y8, hy⟩ := ih (.int (jI (fcC s i (s (72 + 7 * p))))) (.int (jI (wyC s i (s (72 + 7 * p)))))
          refine ⟨y7, y8, fun Q => ?_⟩
          rw [run, sg_171_115, if_neg (by rw [jI_le (by omega) (by omega) (by omega) (by omega)]; omega), sg_171_134, jI_add]
          have := hy Q
          rw [hc1, hc2] at this
          exact this
        · obtain ⟨y7, y8, hy⟩ := next (.int (jI (fcC s i (s (72 + 7 * p))))) (.int (jI (wyC s i (s (72 + 7 * p))))) (by rw [hst, hs, if_neg (fun h => q h.2)])
          refine ⟨y7, y8, fun Q => ?_⟩
          rw [run, sg_171_115, if_pos (by rw [jI_le (by omega) (by omega) (by omega) (by omega)]; omega)]
          exact hy Q
  obtain ⟨x7, x8, hrun⟩ := key (s 4).toNat (Nat.le_refl _) (.float 0) (.float 0)
  rw [Nat.sub_self] at hrun
  obtain ⟨u1, u2, u3⟩ := bsT_ok hK p (s 4).toNat (by omega)
  have hend : ∀ Q : zO → zI → Prop, wz W 171 0 [.ref 0, .int (jI p), .float 0, .float 0, .float 0, .float 0, .float 0, .float 0, .float 0] [] (jm J) Q = (if jI (ceOf (bsT s p (s 4).toNat).1) = jI (-1) then Q (oI 0) (jm J) else wz W 66 0 [.ref 76, .int (jI p), .int (jI (chOf (bsT s p (s 4).toNat).1)), .int (jI (ceOf (bsT s p (s 4).toNat).1))] [] (jm J) (zk Q (fun v I1 => wz W 171 160 [.ref 0, .int (jI p), .int (jI (s (72 + 7 * p))), .int (jI (bsT s p (s 4).toNat).2), .int (jI (chOf (bsT s p (s 4).toNat).1)), .int (jI (ceOf (bsT s p (s 4).toNat).1)), .int (jI (s 4)), x7, x8] (v.toList ++ []) I1 Q))) := by
    intro Q
    rw [sg_171_0, sp_45 (zStk_r3 hb) p0 (by omega) (by decide), e1]
    simp only [zk_l, zk_r, Option.toList_some, Option.toList_none, List.cons_append, List.nil_append, zrokB, zrokB0, zrokB1, zrokJ0, zrokJ1, and_true, true_and, and_self, if_true, if_false, b2_0, b2_1, b2_not, ite_self]
    rw [sg_171_11]
    refine (hrun Q).trans ?_
    rw [sg_171_23, hu, if_pos (Int32.le_refl _)]
  generalize (bsT s p (s 4).toNat).1 = x at *
  by_cases c : x = -1
  · rw [if_pos c, if_pos c]
    refine ⟨J, fun Q => ?_, hS, fun r hr => rfl⟩
    have : ceOf x = -1 := if_pos c
    rw [hend, this, if_pos rfl]
  · obtain ⟨v1, v2, v3, v4⟩ : 0 ≤ x ∧ x / 24 < ((s 4).toNat : Int) ∧ x % 24 < nC s (x / 24) ∧ saB s (x / 24) (s (72 + 7 * p)) (x % 24) = true := by
      rcases u3 with h | h
      · exact absurd h c
      · exact h
    have hc1 : chOf x = x / 24 := if_neg c
    have hc2 : ceOf x = x % 24 := if_neg c
    obtain ⟨J', r1, r2, r3⟩ := sp_66 (W := W) h' p0 p1 hp (c := x / 24) (cell := x % 24) (by omega) (by omega) (by omega) (by omega)
    rw [if_neg c, if_neg c]
    refine ⟨J', fun Q => ?_, r2, r3⟩
    rw [hend, hc1, hc2, if_neg (by rw [jI_eq (by omega) (by omega) (by omega) (by omega)]; omega), r1]
    simp only [zk_l, zk_r, Option.toList_some, Option.toList_none, List.cons_append, List.nil_append, zrokB, zrokB0, zrokB1, zrokJ0, zrokJ1, and_true, true_and, and_self, if_true, if_false, b2_0, b2_1, b2_not, ite_self]
    rw [sg_171_160]
end
