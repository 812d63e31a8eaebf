/-! ===== statements, as functions of a text ===== -/
def pB {α β : Type} (x : Int ⊕ (α × Int)) (g : α → Int → Int ⊕ (β × Int)) : Int ⊕ (β × Int) := match x with
  | .inl p => .inl p
  | .inr (v, e) => g v e
abbrev pSt : Type := (Int → Int) × Int × Int
/-- the first place of a name, or -1 -/
def fnd (g : Nat → Int) (c nm : Int) : Int := if zfst (fun i => decide (g i = nm)) c.toNat < c.toNat then ((zfst (fun i => decide (g i = nm)) c.toNat : Nat) : Int) else -1
def fndC (s : Int → Int) (nm : Int) : Int := fnd (fun i => s (12 + 8 * (i : Int))) (s 4) nm
def fndG (s : Int → Int) (nm : Int) : Int := fnd (fun i => s (36 + 6 * (i : Int))) (s 5) nm
theorem fnd_b (g : Nat → Int) (c nm : Int) : fnd g c nm = -1 ∨ (0 ≤ fnd g c nm ∧ fnd g c nm < c ∧ g (fnd g c nm).toNat = nm) := by
  unfold fnd
  split
  · rename_i h
    refine Or.inr ⟨by omega, by omega, ?_⟩
    have := zfst_yes (fun i => decide (g i = nm)) c.toNat h
    rw [Int.toNat_natCast]
    simpa using this
  · exact Or.inl rfl
theorem fnd_no {g : Nat → Int} {c nm : Int} (h : ∀ i : Nat, (i : Int) < c → g i ≠ nm) : fnd g c nm = -1 := by
  rcases fnd_b g c nm with h1 | ⟨h1, h2, h3⟩
  · exact h1
  · exact absurd h3 (h _ (by omega))
theorem fnd_ne {g : Nat → Int} {c nm : Int} (h : fnd g c nm = -1) : ∀ i : Nat, (i : Int) < c → g i ≠ nm := by
  intro i hi
  unfold fnd at h
  split at h
  · omega
  · have hle := zfst_le (fun i => decide (g i = nm)) c.toNat
    have := zfst_no (fun i => decide (g i = nm)) c.toNat i (by omega)
    simpa using this
def pNm (f : Int → Int) (n : Int) (s : Int → Int) (e : Int) : Int ⊕ (Int × Int) := if tqN f n e ≠ 0 ∧ fndC s (tqN f n e) = -1 ∧ fndG s (tqN f n e) = -1 then .inr (tqN f n e, tqE f n e) else .inl (tqS f n e)
def pCn (f : Int → Int) (n : Int) (s : Int → Int) (e : Int) : Int ⊕ (Int × Int) := if tqN f n e ≠ 0 ∧ fndC s (tqN f n e) ≠ -1 then .inr (fndC s (tqN f n e), tqE f n e) else .inl (tqS f n e)
def pGn (f : Int → Int) (n : Int) (s : Int → Int) (e : Int) : Int ⊕ (Int × Int) := if tqN f n e ≠ 0 ∧ fndG s (tqN f n e) ≠ -1 then .inr (fndG s (tqN f n e), tqE f n e) else .inl (tqS f n e)
def fCh (s : Int → Int) (a b c d : Int) : Int → Int := sset (sset (sset (sset (sset s (12 + 8 * s 4) a) (12 + 8 * s 4 + 1) b) (12 + 8 * s 4 + 2) c) (12 + 8 * s 4 + 3) d) 4 (s 4 + 1)
def dorV (a i : Int) : Int := (jI a ||| (jI 1 <<< (jI i &&& 31))).toInt
def fDr (s : Int → Int) (k r c : Int) : Int → Int := sset s (12 + 8 * k + 6) (dorV (s (12 + 8 * k + 6)) (r * s (12 + 8 * k + 2) + c))
def fGd (s : Int → Int) (a b c d e g : Int) : Int → Int := sset (sset (sset (sset (sset (sset (sset s (36 + 6 * s 5) a) (36 + 6 * s 5 + 1) b) (36 + 6 * s 5 + 2) c) (36 + 6 * s 5 + 3) d) (36 + 6 * s 5 + 4) e) (36 + 6 * s 5 + 5) g) 5 (s 5 + 1)
def fOr (s : Int → Int) (a b c : Int) : Int → Int := sset (sset (sset (sset s (352 + 4 * s 7) a) (352 + 4 * s 7 + 1) b) (352 + 4 * s 7 + 2) c) 7 (s 7 + 1)
section
variable (f : Int → Int) (n : Int)
def pCh (s : Int → Int) (hl hq e : Int) : Int ⊕ (pSt × Int) := if s 4 = 3 then .inl (tqS f n e) else pB (pNm f n s (tqE f n e)) fun a e1 => pB (pNu f n 1 6 e1) fun b e2 => pB (pNu f n 1 4 e2) fun c e3 => pB (pTe f n (-30) 20 e3) fun d e4 => .inr ((fCh s a b c d, hl, hq), e4)
def pDr (s : Int → Int) (hl hq e : Int) : Int ⊕ (pSt × Int) := pB (pCn f n s (tqE f n e)) fun k e1 => pB (pNu f n 0 (s (12 + 8 * k + 1) - 1) e1) fun r e2 => pB (pNu f n 0 (s (12 + 8 * k + 2) - 1) e2) fun c e3 => .inr ((fDr s k r c, hl, hq), e3)
def pGd (s : Int → Int) (hl hq e : Int) : Int ⊕ (pSt × Int) := if s 5 = 6 then .inl (tqS f n e) else pB (pNm f n s (tqE f n e)) fun a e1 => pB (pTe f n (-30) 20 e1) fun b e2 => pB (pTe f n b 20 e2) fun c e3 => pB (pNu f n 1 60 e3) fun d e4 => pB (pNu f n 0 9 e4) fun x e5 => pB (pNu f n 0 9 e5) fun y e6 => .inr ((fGd s a b c d x y, hl, hq), e6)
def pPl (s : Int → Int) (hl hq e : Int) : Int ⊕ (pSt × Int) := if s 6 = 8 then .inl (tqS f n e) else pB (pGn f n s (tqE f n e)) fun g e1 => .inr ((fAdd s g, hl, hq), e1)
def pOr (s : Int → Int) (hl hq e : Int) : Int ⊕ (pSt × Int) := if s 7 = 10 then .inl (tqS f n e) else pB (pGn f n s (tqE f n e)) fun g e1 => pB (pNu f n 1 9 e1) fun b e2 => pB (pNu f n 0 365 e2) fun c e3 => .inr ((fOr s g b c, hl, hq), e3)
def pLi (s : Int → Int) (hl hq e : Int) : Int ⊕ (pSt × Int) := if hl = 1 then .inl (tqS f n e) else pB (pNu f n 0 999 (tqE f n e)) fun a e1 => pB (pNu f n 0 999 e1) fun b e2 => .inr ((sset (sset s 1 a) 2 b, 1, hq), e2)
def pQu (s : Int → Int) (hl hq e : Int) : Int ⊕ (pSt × Int) := if hq = 1 then .inl (tqS f n e) else pB (pTe f n (-30) 40 (tqE f n e)) fun a e1 => .inr ((sset s 3 a, hl, 1), e1)
def pSm (s : Int → Int) (hl hq e : Int) : Int ⊕ (pSt × Int) := if tqW f n e 0 = true then pCh f n s hl hq e else if tqW f n e 1 = true then pDr f n s hl hq e else if tqW f n e 2 = true then pGd f n s hl hq e else if tqW f n e 3 = true then pPl f n s hl hq e else if tqW f n e 4 = true then pOr f n s hl hq e else if tqW f n e 5 = true then pLi f n s hl hq e else if tqW f n e 6 = true then pQu f n s hl hq e else .inl (tqS f n e)
/-- all statements: where it is wrong, or what is read -/
def pRn : Nat → (Int → Int) → Int → Int → Int → Int ⊕ pSt
  | 0, _, _, _, e => .inl (tqS f n e)
  | k + 1, s, hl, hq, e => match pSm f n s hl hq e with
    | .inl p => .inl p
    | .inr ((s', hl', hq'), e') => if tqK f n e' = 0 then .inr (s', hl', hq') else if tqG f n e' 59 = true then pRn k s' hl' hq' (tqE f n e') else .inl (tqS f n e')
end
/-! what a setup that is being read keeps to -/
def nrS (s : Int → Int) : Prop := (∀ c, 0 ≤ c → c < s 4 → ∀ i, i < 7 → s (12 + 8 * c) ≠ cdW i) ∧ ∀ g, 0 ≤ g → g < s 5 → ∀ i, i < 7 → s (36 + 6 * g) ≠ cdW i
def ldS (s : Int → Int) : Prop := s 0 = 0 ∧ s 9 = 0 ∧ s 10 = 0 ∧ s 8 = s 6 ∧ 0 ≤ s 6 ∧ s 6 ≤ 8 ∧
  (∀ p, 0 ≤ p → p < s 6 → 0 ≤ s (72 + 7 * p) ∧ s (72 + 7 * p) < s 5 ∧ s (72 + 7 * p + 1) = 0 ∧ s (72 + 7 * p + 2) = 0 ∧ s (72 + 7 * p + 3) = -1 ∧ s (72 + 7 * p + 4) = 0 ∧ s (72 + 7 * p + 5) = 0 ∧ s (392 + p) = p) ∧
  (∀ x, 400 ≤ x → x < 472 → s x = -1) ∧
  (∀ c, 0 ≤ c → c < 3 → s (12 + 8 * c + 4) = 0 ∧ s (12 + 8 * c + 5) = 0 ∧ (s 4 ≤ c → s (12 + 8 * c + 6) = 0) ∧ (c < s 4 → -30 ≤ s (12 + 8 * c + 3) ∧ s (12 + 8 * c + 3) ≤ 20)) ∧
  ∀ o, 0 ≤ o → o < 10 → s (352 + 4 * o + 3) = 0
def okR (s : Int → Int) (hl hq : Int) : Prop := okK s ∧ nrS s ∧ ldS s ∧ (hl = 0 ∨ hl = 1) ∧ (hq = 0 ∨ hq = 1)
def s000 (r : Int → Int) : Int → Int := sset (sset (sset (fun j => if 0 ≤ j ∧ j < 472 then (if j < 400 then 0 else -1) else r j) 1 100) 2 10) 3 12
theorem s000_v {r : Int → Int} {j : Int} (h : 4 ≤ j ∧ j < 400 ∨ j = 0) : s000 r j = 0 := by
  unfold s000
  rw [sset_ne (by omega), sset_ne (by omega), sset_ne (by omega)]
  show (if 0 ≤ j ∧ j < 472 then (if j < 400 then (0 : Int) else -1) else r j) = 0
  rw [if_pos (by omega), if_pos (by omega)]
theorem s000_m {r : Int → Int} {j : Int} (h : 400 ≤ j ∧ j < 472) : s000 r j = -1 := by
  unfold s000
  rw [sset_ne (by omega), sset_ne (by omega), sset_ne (by omega)]
  show (if 0 ≤ j ∧ j < 472 then (if j < 400 then (0 : Int) else -1) else r j) = -1
  rw [if_pos (by omega), if_neg (by omega)]
theorem s000_123 (r : Int → Int) : s000 r 1 = 100 ∧ s000 r 2 = 10 ∧ s000 r 3 = 12 := by
  unfold s000
  refine ⟨?_, ?_, ?_⟩
  · rw [sset_ne (by decide), sset_ne (by decide), sset_eq rfl]
  · rw [sset_ne (by decide), sset_eq rfl]
  · rw [sset_eq rfl]
theorem okR_0 (r : Int → Int) : okR (s000 r) 0 0 := by
  obtain ⟨q1, q2, q3⟩ := s000_123 r
  have e0 := s000_v (r := r) (j := 0) (by omega)
  have e4 := s000_v (r := r) (j := 4) (by omega)
  have e5 := s000_v (r := r) (j := 5) (by omega)
  have e6 := s000_v (r := r) (j := 6) (by omega)
  have e7 := s000_v (r := r) (j := 7) (by omega)
  have e8 := s000_v (r := r) (j := 8) (by omega)
  have e9 := s000_v (r := r) (j := 9) (by omega)
  have e10 := s000_v (r := r) (j := 10) (by omega)
  refine ⟨⟨?_, fun c a b => by omega, fun g a b => by omega, fun o a b => by omega⟩, ⟨fun c a b => by omega, fun c a b => by omega⟩, ⟨e0, e9, e10, by omega, by omega, by omega, fun p a b => by omega, fun x a b => s000_m (by omega), fun c a b => ⟨s000_v (by omega), s000_v (by omega), fun _ => s000_v (by omega), fun h9 => by omega⟩, fun o a b => s000_v (by omega)⟩, Or.inl rfl, Or.inl rfl⟩
  unfold okB
  omega
section
variable {s t : Int → Int}
theorem okC_cg (h : okC s) (h4 : t 4 = s 4) (e : ∀ c, 0 ≤ c → c < s 4 → t (12 + 8 * c) = s (12 + 8 * c) ∧ t (12 + 8 * c + 1) = s (12 + 8 * c + 1) ∧ t (12 + 8 * c + 2) = s (12 + 8 * c + 2) ∧ t (12 + 8 * c + 6) = s (12 + 8 * c + 6)) : okC t := by
  intro c c0 c1
  obtain ⟨e1, e2, e3, e4⟩ := e c c0 (by omega)
  rw [e1, e2, e3, e4]
  exact h c c0 (by omega)
theorem okG_cg (h : okG s) (h5 : t 5 = s 5) (g6 : s 5 ≤ 6) (e : ∀ j, 36 ≤ j → j < 72 → t j = s j) : okG t := by
  intro g g0 g1
  rw [e _ (show 36 ≤ 36 + 6 * g by omega) (by omega), e _ (show 36 ≤ 36 + 6 * g + 1 by omega) (by omega), e _ (show 36 ≤ 36 + 6 * g + 2 by omega) (by omega), e _ (show 36 ≤ 36 + 6 * g + 3 by omega) (by omega), e _ (show 36 ≤ 36 + 6 * g + 4 by omega) (by omega), e _ (show 36 ≤ 36 + 6 * g + 5 by omega) (by omega)]
  exact h g g0 (by omega)
theorem okO_cg (h : okO s) (h7 : t 7 = s 7) (h5 : s 5 ≤ t 5) (o10 : s 7 ≤ 10) (e : ∀ j, 352 ≤ j → j < 392 → t j = s j) : okO t := by
  intro o o0 o1
  rw [e _ (show 352 ≤ 352 + 4 * o by omega) (by omega), e _ (show 352 ≤ 352 + 4 * o + 1 by omega) (by omega), e _ (show 352 ≤ 352 + 4 * o + 2 by omega) (by omega)]
  have := h o o0 (by omega)
  omega
theorem nrS_cg (h : nrS s) (h4 : t 4 = s 4) (h5 : t 5 = s 5) (e1 : ∀ c, 0 ≤ c → c < s 4 → t (12 + 8 * c) = s (12 + 8 * c)) (e2 : ∀ g, 0 ≤ g → g < s 5 → t (36 + 6 * g) = s (36 + 6 * g)) : nrS t := by
  refine ⟨fun c c0 c1 i hi => ?_, fun g g0 g1 i hi => ?_⟩
  · rw [e1 c c0 (by omega)]; exact h.1 c c0 (by omega) i hi
  · rw [e2 g g0 (by omega)]; exact h.2 g g0 (by omega) i hi
theorem ldS_cg (h : ldS s) (e : ∀ j, (j = 0 ∨ j = 6 ∨ j = 8 ∨ j = 9 ∨ j = 10 ∨ (72 ≤ j ∧ j < 352) ∨ 392 ≤ j) → t j = s j) (h5 : s 5 ≤ t 5) (ec : ∀ c, 0 ≤ c → c < 3 → t (12 + 8 * c + 4) = s (12 + 8 * c + 4) ∧ t (12 + 8 * c + 5) = s (12 + 8 * c + 5) ∧ (t 4 ≤ c → t (12 + 8 * c + 6) = s (12 + 8 * c + 6) ∧ s 4 ≤ c) ∧ (c < t 4 → -30 ≤ t (12 + 8 * c + 3) ∧ t (12 + 8 * c + 3) ≤ 20)) (eo : ∀ o, 0 ≤ o → o < 10 → t (352 + 4 * o + 3) = s (352 + 4 * o + 3)) : ldS t := by
  obtain ⟨h0, h9, h10, h8, h6a, h6b, hp, hx, hc, ho⟩ := h
  refine ⟨by rw [e 0 (by omega)]; exact h0, by rw [e 9 (by omega)]; exact h9, by rw [e 10 (by omega)]; exact h10, by rw [e 8 (by omega), e 6 (by omega)]; exact h8, by rw [e 6 (by omega)]; exact h6a, by rw [e 6 (by omega)]; exact h6b, fun p p0 p1 => ?_, fun x a b => by rw [e x (by omega)]; exact hx x a b, fun c a b => ?_, fun o a b => by rw [eo o a b]; exact ho o a b⟩
  · rw [e 6 (by omega)] at p1
    rw [e (72 + 7 * p) (by omega), e (72 + 7 * p + 1) (by omega), e (72 + 7 * p + 2) (by omega), e (72 + 7 * p + 3) (by omega), e (72 + 7 * p + 4) (by omega), e (72 + 7 * p + 5) (by omega), e (392 + p) (by omega)]
    obtain ⟨x1, x2, x3⟩ := hp p p0 p1
    exact ⟨x1, by omega, x3⟩
  · obtain ⟨x1, x2, x3, x4⟩ := ec c a b
    obtain ⟨y1, y2, y3, y4⟩ := hc c a b
    exact ⟨by rw [x1]; exact y1, by rw [x2]; exact y2, fun h9 => by
      obtain ⟨z1, z2⟩ := x3 h9
      rw [z1]
      exact y3 z2, x4⟩
variable {hl hq : Int}
theorem okR_Ch (h : okR s hl hq) {a b c d : Int} (h4 : s 4 < 3) (a1 : 1 ≤ a) (a2 : a < 1073741824) (b1 : 1 ≤ b) (b2' : b ≤ 6) (c1 : 1 ≤ c) (c2 : c ≤ 4) (d1 : -30 ≤ d) (d2 : d ≤ 20) (an : ∀ i, i < 7 → a ≠ cdW i) : okR (fCh s a b c d) hl hq := by
  obtain ⟨⟨hB, hC, hG, hO⟩, hN, hL, hh⟩ := h
  obtain ⟨x1, x2, x3, x4, x5, x6, x7, x8, x9, x10, x11, x12⟩ := hB
  have ht : ∀ j, (j < 12 + 8 * s 4 ∨ 12 + 8 * s 4 + 3 < j) ∧ j ≠ 4 → fCh s a b c d j = s j := fun j hj => by
    unfold fCh
    rw [sset_ne (by omega), sset_ne (by omega), sset_ne (by omega), sset_ne (by omega), sset_ne (by omega)]
  have v0 : fCh s a b c d (12 + 8 * s 4) = a := by
    unfold fCh
    rw [sset_ne (by omega), sset_ne (by omega), sset_ne (by omega), sset_ne (by omega), sset_eq rfl]
  have v1 : fCh s a b c d (12 + 8 * s 4 + 1) = b := by
    unfold fCh
    rw [sset_ne (by omega), sset_ne (by omega), sset_ne (by omega), sset_eq rfl]
  have v2 : fCh s a b c d (12 + 8 * s 4 + 2) = c := by
    unfold fCh
    rw [sset_ne (by omega), sset_ne (by omega), sset_eq rfl]
  have v3 : fCh s a b c d (12 + 8 * s 4 + 3) = d := by
    unfold fCh
    rw [sset_ne (by omega), sset_eq rfl]
  have v4 : fCh s a b c d 4 = s 4 + 1 := by
    unfold fCh
    rw [sset_eq rfl]
  generalize fCh s a b c d = t at *
  have h6 := hL.2.2.2.2.2.2.2.2.1 (s 4) x7 h4
  refine ⟨⟨?_, fun k k0 k1 => ?_, okG_cg hG (ht 5 (by omega)) x10 (fun j j0 j1 => ht j (by omega)), okO_cg hO (ht 7 (by omega)) (by rw [ht 5 (by omega)]; exact Int.le_refl _) x12 (fun j j0 j1 => ht j (by omega))⟩, ⟨fun k k0 k1 i hi => ?_, fun g g0 g1 i hi => ?_⟩, ldS_cg hL (fun j hj => ht j (by omega)) (by rw [ht 5 (by omega)]; exact Int.le_refl _) (fun k k0 k1 => ⟨ht _ (by omega), ht _ (by omega), fun h9 => ⟨ht _ (by omega), by omega⟩, fun h9 => ?_⟩) (fun o o0 o1 => ht _ (by omega)), hh⟩
  · unfold okB
    rw [ht 1 (by omega), ht 2 (by omega), ht 3 (by omega), ht 5 (by omega), ht 7 (by omega)]
    omega
  · by_cases e : k = s 4
    · rw [e, v0, v1, v2, ht (12 + 8 * s 4 + 6) (by omega)]
      refine ⟨b1, b2', c1, c2, a1, a2, fun i hi _ => ?_⟩
      rw [h6.2.2.1 (Int.le_refl _)]
      exact b_0 i
    · rw [ht (12 + 8 * k) (by omega), ht (12 + 8 * k + 1) (by omega), ht (12 + 8 * k + 2) (by omega), ht (12 + 8 * k + 6) (by omega)]
      exact hC k k0 (by omega)
  · by_cases e : k = s 4
    · rw [e, v0]; exact an i hi
    · rw [ht _ (by omega)]; exact hN.1 k k0 (by omega) i hi
  · rw [ht 5 (by omega)] at g1
    rw [ht _ (by omega)]; exact hN.2 g g0 g1 i hi
  · by_cases e : k = s 4
    · rw [e, v3]; exact ⟨d1, d2⟩
    · rw [ht _ (by omega)]; exact (hL.2.2.2.2.2.2.2.2.1 k k0 k1).2.2.2 (by omega)
theorem okR_Dr (h : okR s hl hq) {k r c : Int} (k0 : 0 ≤ k) (k1 : k < s 4) (r0 : 0 ≤ r) (r1 : r < s (12 + 8 * k + 1)) (c0 : 0 ≤ c) (c1 : c < s (12 + 8 * k + 2)) : okR (fDr s k r c) hl hq := by
  obtain ⟨⟨hB, hC, hG, hO⟩, hN, hL, hh⟩ := h
  have hB' := hB
  obtain ⟨x1, x2, x3, x4, x5, x6, x7, x8, x9, x10, x11, x12⟩ := hB'
  have ht : ∀ j, j ≠ 12 + 8 * k + 6 → fDr s k r c j = s j := fun j hj => by
    unfold fDr
    rw [sset_ne hj]
  have v6 : fDr s k r c (12 + 8 * k + 6) = dorV (s (12 + 8 * k + 6)) (r * s (12 + 8 * k + 2) + c) := by
    unfold fDr
    rw [sset_eq rfl]
  generalize fDr s k r c = t at *
  refine ⟨⟨?_, fun q q0 q1 => ?_, okG_cg hG (ht 5 (by omega)) x10 (fun j j0 j1 => ht j (by omega)), okO_cg hO (ht 7 (by omega)) (by rw [ht 5 (by omega)]; exact Int.le_refl _) x12 (fun j j0 j1 => ht j (by omega))⟩, nrS_cg hN (ht 4 (by omega)) (ht 5 (by omega)) (fun q q0 q1 => ht _ (by omega)) (fun g g0 g1 => ht _ (by omega)), ldS_cg hL (fun j hj => ht j (by omega)) (by rw [ht 5 (by omega)]; exact Int.le_refl _) (fun q q0 q1 => ⟨ht _ (by omega), ht _ (by omega), fun h9 => ⟨ht _ (by rw [ht 4 (by omega)] at h9; omega), by rw [ht 4 (by omega)] at h9; exact h9⟩, fun h9 => by rw [ht 4 (by omega)] at h9; rw [ht _ (by omega)]; exact (hL.2.2.2.2.2.2.2.2.1 q q0 q1).2.2.2 h9⟩) (fun o o0 o1 => ht _ (by omega)), hh⟩
  · unfold okB
    rw [ht 1 (by omega), ht 2 (by omega), ht 3 (by omega), ht 4 (by omega), ht 5 (by omega), ht 7 (by omega)]
    exact hB
  · rw [ht 4 (by omega)] at q1
    by_cases e : q = k
    · subst e
      obtain ⟨y1, y2, y3, y4, y5, y6, y7⟩ := hC q q0 q1
      rw [ht (12 + 8 * q) (by omega), ht (12 + 8 * q + 1) (by omega), ht (12 + 8 * q + 2) (by omega), v6]
      refine ⟨y1, y2, y3, y4, y5, y6, fun i hi hi2 => ?_⟩
      generalize s (12 + 8 * q + 1) = R at *
      generalize s (12 + 8 * q + 2) = C at *
      have m1 : (r + 1) * C ≤ R * C := Int.mul_le_mul_of_nonneg_right (by omega) (by omega)
      have m2 : (r + 1) * C = r * C + C := by rw [Int.add_mul, Int.one_mul]
      have m3 : R * C ≤ 6 * 4 := Int.mul_le_mul y2 y4 (by omega) (by omega)
      have m4 : 0 ≤ r * C := Int.mul_nonneg r0 (by omega)
      unfold dorV
      rw [jI_of, b_or, y7 i hi hi2, show jI 1 = (1 : Int32) from rfl, b_one (by omega) (by omega) hi, decide_eq_false (by omega), Bool.or_false]
    · rw [ht (12 + 8 * q) (by omega), ht (12 + 8 * q + 1) (by omega), ht (12 + 8 * q + 2) (by omega), ht (12 + 8 * q + 6) (by omega)]
      exact hC q q0 q1
theorem okR_Gd (h : okR s hl hq) {a b c d x y : Int} (h5 : s 5 < 6) (a1 : 1 ≤ a) (a2 : a < 1073741824) (b1 : -30 ≤ b) (c1 : b ≤ c) (c2 : c ≤ 20) (d1 : 1 ≤ d) (d2 : d ≤ 60) (x1' : 0 ≤ x) (x2' : x ≤ 9) (y1 : 0 ≤ y) (y2 : y ≤ 9) (an : ∀ i, i < 7 → a ≠ cdW i) : okR (fGd s a b c d x y) hl hq := by
  obtain ⟨⟨hB, hC, hG, hO⟩, hN, hL, hh⟩ := h
  obtain ⟨x1, x2, x3, x4, x5, x6, x7, x8, x9, x10, x11, x12⟩ := hB
  have ht : ∀ j, (j < 36 + 6 * s 5 ∨ 36 + 6 * s 5 + 5 < j) ∧ j ≠ 5 → fGd s a b c d x y j = s j := fun j hj => by
    unfold fGd
    rw [sset_ne (by omega), sset_ne (by omega), sset_ne (by omega), sset_ne (by omega), sset_ne (by omega), sset_ne (by omega), sset_ne (by omega)]
  have v0 : fGd s a b c d x y (36 + 6 * s 5) = a := by
    unfold fGd
    rw [sset_ne (by omega), sset_ne (by omega), sset_ne (by omega), sset_ne (by omega), sset_ne (by omega), sset_ne (by omega), sset_eq rfl]
  have v1 : fGd s a b c d x y (36 + 6 * s 5 + 1) = b := by
    unfold fGd
    rw [sset_ne (by omega), sset_ne (by omega), sset_ne (by omega), sset_ne (by omega), sset_ne (by omega), sset_eq rfl]
  have v2 : fGd s a b c d x y (36 + 6 * s 5 + 2) = c := by
    unfold fGd
    rw [sset_ne (by omega), sset_ne (by omega), sset_ne (by omega), sset_ne (by omega), sset_eq rfl]
  have v3 : fGd s a b c d x y (36 + 6 * s 5 + 3) = d := by
    unfold fGd
    rw [sset_ne (by omega), sset_ne (by omega), sset_ne (by omega), sset_eq rfl]
  have v4 : fGd s a b c d x y (36 + 6 * s 5 + 4) = x := by
    unfold fGd
    rw [sset_ne (by omega), sset_ne (by omega), sset_eq rfl]
  have v5 : fGd s a b c d x y (36 + 6 * s 5 + 5) = y := by
    unfold fGd
    rw [sset_ne (by omega), sset_eq rfl]
  have v9 : fGd s a b c d x y 5 = s 5 + 1 := by
    unfold fGd
    rw [sset_eq rfl]
  generalize fGd s a b c d x y = t at *
  refine ⟨⟨?_, okC_cg hC (ht 4 (by omega)) (fun q q0 q1 => ⟨ht _ (by omega), ht _ (by omega), ht _ (by omega), ht _ (by omega)⟩), fun g g0 g1 => ?_, okO_cg hO (ht 7 (by omega)) (by omega) x12 (fun j j0 j1 => ht j (by omega))⟩, ⟨fun k k0 k1 i hi => ?_, fun g g0 g1 i hi => ?_⟩, ldS_cg hL (fun j hj => ht j (by omega)) (by omega) (fun k k0 k1 => ⟨ht _ (by omega), ht _ (by omega), fun h9 => ⟨ht _ (by omega), by rw [ht 4 (by omega)] at h9; exact h9⟩, fun h9 => by rw [ht 4 (by omega)] at h9; rw [ht _ (by omega)]; exact (hL.2.2.2.2.2.2.2.2.1 k k0 k1).2.2.2 h9⟩) (fun o o0 o1 => ht _ (by omega)), hh⟩
  · unfold okB
    rw [ht 1 (by omega), ht 2 (by omega), ht 3 (by omega), ht 4 (by omega), ht 7 (by omega)]
    omega
  · by_cases e : g = s 5
    · rw [e, v0, v1, v2, v3, v4, v5]
      omega
    · rw [ht (36 + 6 * g) (by omega), ht (36 + 6 * g + 1) (by omega), ht (36 + 6 * g + 2) (by omega), ht (36 + 6 * g + 3) (by omega), ht (36 + 6 * g + 4) (by omega), ht (36 + 6 * g + 5) (by omega)]
      exact hG g g0 (by omega)
  · rw [ht 4 (by omega)] at k1
    rw [ht _ (by omega)]; exact hN.1 k k0 k1 i hi
  · by_cases e : g = s 5
    · rw [e, v0]; exact an i hi
    · rw [ht _ (by omega)]; exact hN.2 g g0 (by omega) i hi
theorem okR_Pl (h : okR s hl hq) {g : Int} (h6 : s 6 < 8) (g0 : 0 ≤ g) (g1 : g < s 5) : okR (fAdd s g) hl hq := by
  obtain ⟨⟨hB, hC, hG, hO⟩, hN, hL, hh⟩ := h
  have hB' := hB
  obtain ⟨x1, x2, x3, x4, x5, x6, x7, x8, x9, x10, x11, x12⟩ := hB'
  obtain ⟨l0, l9, l10, l8, l6a, l6b, lp, lx, lc, lo⟩ := hL
  have ht : ∀ j, (j < 72 + 7 * s 6 ∨ 72 + 7 * s 6 + 7 ≤ j) ∧ j ≠ 392 + s 8 ∧ j ≠ 8 ∧ j ≠ 6 → fAdd s g j = s j := by
    intro j hj
    unfold fAdd
    simp (disch := first | assumption | omega) only [sset_ne, zro_ne]
  have t6 : fAdd s g 6 = s 6 + 1 := by unfold fAdd; simp (disch := first | assumption | omega) only [sset_ne, sset_eq]
  have t8 : fAdd s g 8 = s 8 + 1 := by unfold fAdd; simp (disch := first | assumption | omega) only [sset_ne, sset_eq]
  have tq : fAdd s g (392 + s 8) = s 6 := by unfold fAdd; simp (disch := first | assumption | omega) only [sset_ne, sset_eq]
  have tp0 : fAdd s g (72 + 7 * s 6) = g := by unfold fAdd; simp (disch := first | assumption | omega) only [sset_ne, sset_eq]
  have tp1 : fAdd s g (72 + 7 * s 6 + 1) = s 0 := by unfold fAdd; simp (disch := first | assumption | omega) only [sset_ne, sset_eq]
  have tp2 : fAdd s g (72 + 7 * s 6 + 2) = 0 := by unfold fAdd; simp (disch := first | assumption | omega) only [sset_ne, zro_in]
  have tp3 : fAdd s g (72 + 7 * s 6 + 3) = -1 := by unfold fAdd; simp (disch := first | assumption | omega) only [sset_ne, sset_eq]
  have tp4 : fAdd s g (72 + 7 * s 6 + 4) = 0 := by unfold fAdd; simp (disch := first | assumption | omega) only [sset_ne, zro_in]
  have tp5 : fAdd s g (72 + 7 * s 6 + 5) = 0 := by unfold fAdd; simp (disch := first | assumption | omega) only [sset_ne, zro_in]
  generalize fAdd s g = t at *
  refine ⟨⟨?_, okC_cg hC (ht 4 (by omega)) (fun q q0 q1 => ⟨ht _ (by omega), ht _ (by omega), ht _ (by omega), ht _ (by omega)⟩), okG_cg hG (ht 5 (by omega)) x10 (fun j j0 j1 => ht j (by omega)), okO_cg hO (ht 7 (by omega)) (by rw [ht 5 (by omega)]; exact Int.le_refl _) x12 (fun j j0 j1 => ht j (by omega))⟩, nrS_cg hN (ht 4 (by omega)) (ht 5 (by omega)) (fun q q0 q1 => ht _ (by omega)) (fun g g0 g1 => ht _ (by omega)), ⟨by rw [ht 0 (by omega)]; exact l0, by rw [ht 9 (by omega)]; exact l9, by rw [ht 10 (by omega)]; exact l10, by omega, by omega, by omega, fun p p0 p1 => ?_, fun x a b => by rw [ht x (by omega)]; exact lx x a b, fun c a b => ?_, fun o a b => by rw [ht _ (by omega)]; exact lo o a b⟩, hh⟩
  · unfold okB
    rw [ht 1 (by omega), ht 2 (by omega), ht 3 (by omega), ht 4 (by omega), ht 5 (by omega), ht 7 (by omega)]
    exact hB
  · rw [ht 5 (by omega)]
    by_cases e : p = s 6
    · rw [e, tp0, tp1, tp2, tp3, tp4, tp5, show 392 + s 6 = 392 + s 8 by omega, tq]
      exact ⟨g0, g1, l0, rfl, rfl, rfl, rfl, rfl⟩
    · rw [ht (72 + 7 * p) (by omega), ht (72 + 7 * p + 1) (by omega), ht (72 + 7 * p + 2) (by omega), ht (72 + 7 * p + 3) (by omega), ht (72 + 7 * p + 4) (by omega), ht (72 + 7 * p + 5) (by omega), ht (392 + p) (by omega)]
      exact lp p p0 (by omega)
  · rw [ht (12 + 8 * c + 3) (by omega), ht (12 + 8 * c + 4) (by omega), ht (12 + 8 * c + 5) (by omega), ht (12 + 8 * c + 6) (by omega), ht 4 (by omega)]
    exact lc c a b
theorem okR_Or (h : okR s hl hq) {a b c : Int} (h7 : s 7 < 10) (a1 : 0 ≤ a) (a2 : a < s 5) (b1 : 1 ≤ b) (b2' : b ≤ 9) (c1 : 0 ≤ c) (c2 : c ≤ 365) : okR (fOr s a b c) hl hq := by
  obtain ⟨⟨hB, hC, hG, hO⟩, hN, hL, hh⟩ := h
  obtain ⟨x1, x2, x3, x4, x5, x6, x7, x8, x9, x10, x11, x12⟩ := hB
  have ht : ∀ j, (j < 352 + 4 * s 7 ∨ 352 + 4 * s 7 + 2 < j) ∧ j ≠ 7 → fOr s a b c j = s j := fun j hj => by
    unfold fOr
    rw [sset_ne (by omega), sset_ne (by omega), sset_ne (by omega), sset_ne (by omega)]
  have v0 : fOr s a b c (352 + 4 * s 7) = a := by
    unfold fOr
    rw [sset_ne (by omega), sset_ne (by omega), sset_ne (by omega), sset_eq rfl]
  have v1 : fOr s a b c (352 + 4 * s 7 + 1) = b := by
    unfold fOr
    rw [sset_ne (by omega), sset_ne (by omega), sset_eq rfl]
  have v2 : fOr s a b c (352 + 4 * s 7 + 2) = c := by
    unfold fOr
    rw [sset_ne (by omega), sset_eq rfl]
  have v9 : fOr s a b c 7 = s 7 + 1 := by
    unfold fOr
    rw [sset_eq rfl]
  generalize fOr s a b c = t at *
  refine ⟨⟨?_, okC_cg hC (ht 4 (by omega)) (fun q q0 q1 => ⟨ht _ (by omega), ht _ (by omega), ht _ (by omega), ht _ (by omega)⟩), okG_cg hG (ht 5 (by omega)) x10 (fun j j0 j1 => ht j (by omega)), fun o o0 o1 => ?_⟩, nrS_cg hN (ht 4 (by omega)) (ht 5 (by omega)) (fun q q0 q1 => ht _ (by omega)) (fun g g0 g1 => ht _ (by omega)), ldS_cg hL (fun j hj => ht j (by omega)) (by rw [ht 5 (by omega)]; exact Int.le_refl _) (fun k k0 k1 => ⟨ht _ (by omega), ht _ (by omega), fun h9 => ⟨ht _ (by omega), by rw [ht 4 (by omega)] at h9; exact h9⟩, fun h9 => by rw [ht 4 (by omega)] at h9; rw [ht _ (by omega)]; exact (hL.2.2.2.2.2.2.2.2.1 k k0 k1).2.2.2 h9⟩) (fun o o0 o1 => ht _ (by omega)), hh⟩
  · unfold okB
    rw [ht 1 (by omega), ht 2 (by omega), ht 3 (by omega), ht 4 (by omega), ht 5 (by omega)]
    omega
  · rw [ht 5 (by omega)]
    by_cases e : o = s 7
    · rw [e, v0, v1, v2]
      omega
    · rw [ht (352 + 4 * o) (by omega), ht (352 + 4 * o + 1) (by omega), ht (352 + 4 * o + 2) (by omega)]
      exact hO o o0 (by omega)
theorem okR_lo (h : okR s hl hq) (ht : ∀ j, ¬ (1 ≤ j ∧ j ≤ 3) → t j = s j) (h1 : 0 ≤ t 1 ∧ t 1 ≤ 999) (h2 : 0 ≤ t 2 ∧ t 2 ≤ 999) (h3 : -30 ≤ t 3 ∧ t 3 ≤ 40) {hl' hq' : Int} (hh' : (hl' = 0 ∨ hl' = 1) ∧ (hq' = 0 ∨ hq' = 1)) : okR t hl' hq' := by
  obtain ⟨⟨hB, hC, hG, hO⟩, hN, hL, hh⟩ := h
  obtain ⟨x1, x2, x3, x4, x5, x6, x7, x8, x9, x10, x11, x12⟩ := hB
  refine ⟨⟨?_, okC_cg hC (ht 4 (by omega)) (fun q q0 q1 => ⟨ht _ (by omega), ht _ (by omega), ht _ (by omega), ht _ (by omega)⟩), okG_cg hG (ht 5 (by omega)) x10 (fun j j0 j1 => ht j (by omega)), okO_cg hO (ht 7 (by omega)) (by rw [ht 5 (by omega)]; exact Int.le_refl _) x12 (fun j j0 j1 => ht j (by omega))⟩, nrS_cg hN (ht 4 (by omega)) (ht 5 (by omega)) (fun q q0 q1 => ht _ (by omega)) (fun g g0 g1 => ht _ (by omega)), ldS_cg hL (fun j hj => ht j (by omega)) (by rw [ht 5 (by omega)]; exact Int.le_refl _) (fun k k0 k1 => ⟨ht _ (by omega), ht _ (by omega), fun h9 => ⟨ht _ (by omega), by rw [ht 4 (by omega)] at h9; exact h9⟩, fun h9 => by rw [ht 4 (by omega)] at h9; rw [ht _ (by omega)]; exact (hL.2.2.2.2.2.2.2.2.1 k k0 k1).2.2.2 h9⟩) (fun o o0 o1 => ht _ (by omega)), hh'⟩
  unfold okB
  rw [ht 4 (by omega), ht 5 (by omega), ht 7 (by omega)]
  omega
/-- a setup that was read is a state -/
theorem okR_D (h : okR s hl hq) (k : Int) (hk : 0 ≤ k) : okD 365 k s := by
  obtain ⟨⟨hB, hC, hG, hO⟩, hN, hL, hh⟩ := h
  obtain ⟨x1, x2, x3, x4, x5, x6, x7, x8, x9, x10, x11, x12⟩ := hB
  obtain ⟨l0, l9, l10, l8, l6a, l6b, lp, lx, lc, lo⟩ := hL
  have hz : ∀ st : Int, st ≠ 0 → cntS s st (s 6).toNat = 0 := by
    intro st hst
    have : ∀ m : Nat, (m : Int) ≤ s 6 → cntS s st m = 0 := by
      intro m
      induction m with
      | zero => intro _; rfl
      | succ m ih =>
        intro hm
        have e1 : cntS s st (m + 1) = cntS s st m + (if decide (s (72 + 7 * (m : Int) + 2) = st) = true then 1 else 0) := rfl
        rw [e1, ih (by omega), (lp m (by omega) (by omega)).2.2.2.1, decide_eq_false (fun h => hst h.symm), if_neg (by decide)]
    exact this _ (by omega)
  refine ⟨⟨by omega, by omega, by omega, by omega, by omega, by omega⟩, fun c c0 c1 => ?_, fun o o0 o1 => by rw [lo o o0 (by omega)]; omega, fun p p0 p1 => ?_, fun p p0 p1 => ?_, fun x a b => Or.inl (lx _ (by omega) (by omega)), ⟨fun i i0 i1 => ?_, fun i j i0 ij j1 => ?_, fun p p0 p1 hp => ?_⟩, ?_⟩
  · obtain ⟨y1, y2, y3, y4⟩ := lc c c0 (by omega)
    have := y4 c1
    omega
  · obtain ⟨y1, y2, y3, y4, y5, y6, y7, y8⟩ := lp p p0 p1
    omega
  · obtain ⟨y1, y2, y3, y4, y5, y6, y7, y8⟩ := lp p p0 p1
    exact ⟨fun h9 => by omega, fun _ => y5⟩
  · obtain ⟨y1, y2, y3, y4, y5, y6, y7, y8⟩ := lp i i0 (by omega)
    rw [y8]
    exact ⟨i0, by omega, y4⟩
  · obtain ⟨y1, y2, y3, y4, y5, y6, y7, y8⟩ := lp i i0 (by omega)
    obtain ⟨z1, z2, z3, z4, z5, z6, z7, z8⟩ := lp j (by omega) (by omega)
    omega
  · obtain ⟨y1, y2, y3, y4, y5, y6, y7, y8⟩ := lp p p0 p1
    exact ⟨p, p0, by omega, y8⟩
  · unfold okN
    rw [hz 2 (by decide), hz 3 (by decide), l9, l10]
    exact ⟨rfl, rfl⟩
end
