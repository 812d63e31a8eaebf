/-! ===== more fuel, more depth: the same answer ===== -/
theorem zcost_mono {u : Nat} {x y : Option (zO × zM × Nat)} {r : zO × zM × Nat} (hm : ∀ q, x = some q → y = some q) (h : zcost u x = some r) : zcost u y = some r := by
  cases hx : x with
  | none => rw [hx] at h; cases h
  | some q => rw [hm q hx]; rw [hx] at h; exact h
theorem zinv_mono {R : Nat → zRec} {X X' : Nat → Nat → Nat → List Value → List Value → zM → Option (zO × zM × Nat)} (hX : ∀ d y pc L S M r, X d y pc L S M = some r → ∀ d', d ≤ d' → X' d' y pc L S M = some r)
    {d d' y pc : Nat} {L S : List Value} {M : zM} {a b : Nat} {r : zO × zM × Nat} (hd : d ≤ d') (h : zinv R X d y pc L S M a b = some r) : zinv R X' d' y pc L S M a b = some r := by
  unfold zinv at h ⊢
  cases hq : (if a < 9000 then zarg M (R a) b S else none) with
  | none => simp only [hq] at h; cases h
  | some q =>
    obtain ⟨as, S'⟩ := q
    simp only [hq] at h ⊢
    cases d with
    | zero => cases h
    | succ d =>
      obtain ⟨k, rfl⟩ : ∃ k, d' = k + 1 := ⟨d' - 1, by omega⟩
      simp only at h ⊢
      cases hx : X d a 0 (as ++ List.replicate (zRl (R a) - as.length) (.float 0)) [] M with
      | none => simp only [hx] at h; cases h
      | some q =>
        obtain ⟨o, M1, u⟩ := q
        rw [hX _ _ _ _ _ _ _ hx k (by omega)]
        simp only [hx] at h ⊢
        cases o with
        | inl v => exact zcost_mono (fun q hq => hX _ _ _ _ _ _ _ hq _ hd) h
        | inr E =>
          simp only at h ⊢
          cases hz : zhnd (zRe (R y)) pc E with
          | none => simp only [hz] at h ⊢; exact h
          | some hh => simp only [hz] at h ⊢; exact zcost_mono (fun q hq => hX _ _ _ _ _ _ _ hq _ hd) h
theorem zfin_mono {R : Nat → zRec} {X X' : Nat → Nat → Nat → List Value → List Value → zM → Option (zO × zM × Nat)} (hX : ∀ d y pc L S M r, X d y pc L S M = some r → ∀ d', d ≤ d' → X' d' y pc L S M = some r)
    {d d' y pc : Nat} {L S : List Value} {M : zM} {op : zOp} {r : zO × zM × Nat} (hd : d ≤ d') (h : zfin R X d y pc L S M op = some r) : zfin R X' d' y pc L S M op = some r := by
  obtain ⟨i, len, a, b, c, w⟩ := op
  unfold zfin at h ⊢
  cases i <;> simp only at h ⊢ <;> try (cases h; done)
  all_goals first
    | exact h
    | exact zinv_mono hX hd h
    | skip
  case new =>
    by_cases h1 : a < 50
    · rw [if_pos h1] at h ⊢
      by_cases h2 : M.1.length < 1000000
      · rw [if_pos h2] at h ⊢
        exact zcost_mono (fun q hq => hX _ _ _ _ _ _ _ hq _ hd) h
      · rw [if_neg h2] at h; cases h
    · rw [if_neg h1] at h ⊢; exact h
  case newarray =>
    cases S with
    | nil => cases h
    | cons v S =>
      cases v <;> simp only at h ⊢ <;> try (cases h; done)
      rename_i k
      by_cases h1 : k < 0 ∨ 1000000 ≤ k.toNatClampNeg ∨ 1000000 ≤ M.1.length
      · rw [if_pos h1] at h; cases h
      · rw [if_neg h1] at h ⊢
        by_cases h2 : a = 0
        · rw [if_pos h2] at h ⊢
          exact zcost_mono (fun q hq => hX _ _ _ _ _ _ _ hq _ hd) h
        · rw [if_neg h2] at h ⊢
          exact zcost_mono (fun q hq => hX _ _ _ _ _ _ _ hq _ hd) h
  case anewarray =>
    cases S with
    | nil => cases h
    | cons v S =>
      cases v <;> simp only at h ⊢ <;> try (cases h; done)
      rename_i k
      by_cases h1 : k < 0 ∨ 1000000 ≤ k.toNatClampNeg ∨ 1000000 ≤ M.1.length
      · rw [if_pos h1] at h; cases h
      · rw [if_neg h1] at h ⊢
        exact zcost_mono (fun q hq => hX _ _ _ _ _ _ _ hq _ hd) h
theorem zx_mono {R : Nat → zRec} {T : Nat → List (List (Option zOp))} : ∀ (n d y pc : Nat) (L S : List Value) (M : zM) (r : zO × zM × Nat), zx R T n d y pc L S M = some r → ∀ n' d' : Nat, n ≤ n' → d ≤ d' → zx R T n' d' y pc L S M = some r := by
  intro n
  induction n with
  | zero => intro d y pc L S M r h; unfold zx at h; cases h
  | succ n ih =>
    intro d y pc L S M r h n' d' hn hd
    obtain ⟨k, rfl⟩ : ∃ k, n' = k + 1 := ⟨n' - 1, by omega⟩
    unfold zx at h ⊢
    cases hf : zfet (T y) pc with
    | none => simp only [hf] at h; cases h
    | some op =>
      simp only [hf] at h ⊢
      cases hs : zstep op pc L S M with
      | some c => simp only [hs] at h ⊢; exact ih _ _ _ _ _ _ _ h _ _ (by omega) hd
      | none =>
        simp only [hs] at h ⊢
        exact zfin_mono (X := zx R T n) (X' := zx R T k) (fun d y pc L S M r h d' hd' => ih d y pc L S M r h k d' (by omega) hd') hd h
theorem zx_succ {R : Nat → zRec} {T : Nat → List (List (Option zOp))} (n d y pc : Nat) (L S : List Value) (M : zM) : zx R T (n + 1) d y pc L S M = (match zfet (T y) pc with
    | none => none
    | some op => match zstep op pc L S M with
      | some c => zx R T n d y c.1 c.2.1 c.2.2.1 c.2.2.2
      | none => zfin R (zx R T n) d y pc L S M op) := rfl
/-- several steps at once -/
def zgo : Nat → Nat → Nat → List Value → List Value → zM → Option zCf
  | 0, _, pc, L, S, M => some (pc, L, S, M)
  | k + 1, y, pc, L, S, M => match zfet (zT y) pc with
    | some op => (match zstep op pc L S M with | some (pc', L', S', M') => zgo k y pc' L' S' M' | none => none)
    | none => none
theorem zx_go {y : Nat} : ∀ (k pc : Nat) (L S : List Value) (M : zM) (c' : zCf), zgo k y pc L S M = some c' → ∀ n d : Nat, zx zR zT (n + k) d y pc L S M = zx zR zT n d y c'.1 c'.2.1 c'.2.2.1 c'.2.2.2 := by
  intro k
  induction k with
  | zero => intro pc L S M c' h n d; unfold zgo at h; cases h; rfl
  | succ k ih =>
    intro pc L S M c' h n d
    unfold zgo at h
    rw [← Nat.add_assoc, zx_succ]
    cases hf : zfet (zT y) pc with
    | none => simp only [hf] at h; cases h
    | some op =>
      simp only [hf] at h ⊢
      cases hs : zstep op pc L S M with
      | none => simp only [hs] at h; cases h
      | some c1 =>
        obtain ⟨pc1, L1, S1, M1⟩ := c1
        simp only [hs] at h ⊢
        exact ih _ _ _ _ _ h n d
theorem zx_fin {y pc : Nat} {L S : List Value} {M : zM} {op : zOp} (hf : zfet (zT y) pc = some op) (hs : zstep op pc L S M = none) (n d : Nat) : zx zR zT (n + 1) d y pc L S M = zfin zR (zx zR zT n) d y pc L S M op := by
  rw [zx_succ]
  simp only [hf, hs]
