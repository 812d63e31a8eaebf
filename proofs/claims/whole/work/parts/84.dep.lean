/-! ===== how deep calls go: seventeen will do ===== -/
def zrkL : List Nat := [0, 0, 0, 0, 1, 1, 1, 2, 0, 0, 1, 0, 0, 2, 0, 2, 2, 0, 1, 1, 3, 2, 0, 1, 1, 0, 8, 7, 6, 3, 6, 3, 3, 3, 3, 5, 2, 2, 2, 1, 0, 1, 4, 1, 0, 0, 0, 0, 1, 0, 1, 0, 0, 0, 1, 1, 1, 1, 1, 1, 1, 3, 1, 2, 1, 1, 2, 1, 1, 2, 1, 1, 1, 2, 3, 3, 1, 1, 2, 2, 2, 1, 1, 3, 2, 2, 2, 0, 6, 5, 5, 5, 5, 5, 4, 1, 1, 0, 3, 2, 0, 9, 9, 3, 4, 3, 3, 3, 3, 4, 6, 3, 4, 0, 0, 0, 0, 0, 0, 1, 1, 2, 2, 1, 1, 1, 1, 2, 3, 1, 1, 1, 1, 1, 1, 1, 3, 4, 4, 4, 1, 2, 2, 1, 2, 4, 3, 2, 3, 3, 4, 3, 6, 7, 7, 3, 0, 2, 2, 0, 1, 1, 0, 0, 0, 0, 1, 0, 3, 2, 3, 3, 5, 4, 1, 0, 0, 0, 0, 0, 1, 1, 0, 0, 0, 1, 0, 0, 1, 4, 2, 3, 3, 5, 6, 0, 0, 0, 0, 0, 7, 7, 7, 2, 8, 8, 8, 8, 8, 4, 4, 9, 10, 11, 11, 1, 1, 1, 1, 0, 0, 0, 0, 1, 1, 1, 0, 1, 2, 1, 3, 2, 1, 3, 4, 5, 0, 0, 2, 0, 0, 1, 1, 5, 2, 6, 6, 6, 3, 4, 1, 2, 2, 1, 6, 7, 6, 7, 8, 8, 2, 0, 0, 1, 0, 1, 2, 2, 2, 1, 0, 0, 0, 0, 0, 0, 1, 2, 0, 0, 2, 3, 3, 3, 2, 1, 2, 2, 2, 3, 3, 3, 3, 3, 3, 3, 2, 2, 2, 2, 2, 2, 5, 4, 4, 5, 4, 0, 1, 1, 1, 2, 5, 2, 0, 12, 13, 4, 1, 14, 14, 15, 16, 16, 1, 0, 1, 1, 0, 0, 0, 0, 1, 3, 0, 0, 1, 2, 0, 0, 3, 1, 10, 4, 5, 4, 4, 4, 4, 7, 4, 5, 2, 2, 2, 2, 2, 2, 4, 2, 2, 2, 2, 2, 2, 2, 4, 5, 5, 2, 3, 3, 2, 3, 5, 4, 3, 4, 4, 5, 4, 7, 8, 4, 3, 17]
def zrk (y : Nat) : Nat := zrkL.getD y 0
def zrko (y : Nat) (op : zOp) : Bool :=
  let c := Nat.ble 9000 op.2.2.1 || (Nat.blt op.2.2.1 386 && ((Nat.blt (zrk op.2.2.1) (zrk y) && (!(Nat.beq op.2.2.1 315) || Nat.beq op.2.2.2.1 1)) || (Nat.beq op.2.2.1 315 && Nat.beq y 315)))
  match op.1 with
  | .invokevirtual _ => c
  | .invokespecial _ => c
  | .invokestatic _ => c
  | _ => true
def zrkm (y : Nat) : Bool := (zT y).all (fun c => c.all (fun o => match o with | none => true | some op => zrko y op))
set_option maxRecDepth 100000 in
theorem zrk_all : ∀ y, y < 386 → zrkm y = true := by decide +kernel
theorem zrk_op {y pc : Nat} {op : zOp} (hy : y < 386) (hf : zfet (zT y) pc = some op) : zrko y op = true := by
  have h1 := zrk_all y hy
  unfold zrkm at h1
  unfold zfet at hf
  split at hf
  · rename_i c hc
    split at hf
    · rename_i op1 ho
      cases hf
      have h2 := List.all_eq_true.mp h1 c (List.mem_of_getElem? hc)
      exact List.all_eq_true.mp h2 (some op) (List.mem_of_getElem? ho)
    · cases hf
  · cases hf
theorem zx_st {y pc : Nat} {op : zOp} {L S : List Value} {M : zM} {c : zCf} (hf : zfet (zT y) pc = some op) (hs : zstep op pc L S M = some c) (n d : Nat) : zx zR zT (n + 1) d y pc L S M = zx zR zT n d y c.1 c.2.1 c.2.2.1 c.2.2.2 := by
  rw [zx_succ]
  simp only [hf, hs]
theorem zcost_so {u : Nat} {x : Option (zO × zM × Nat)} {r : zO × zM × Nat} (h : zcost u x = some r) : ∃ q, x = some q := by
  cases x with
  | none => cases h
  | some q => exact ⟨q, rfl⟩
theorem zarg_inv {M : zM} {r : zRec} {n : Nat} {S : List Value} {p : List Value × List Value} (hk : zRk r ≠ 1) (h : zarg M r n S = some p) : ∃ q, zargI r n S = some (p.1, p.2, q) := by
  unfold zarg at h
  unfold zargI
  simp only at h ⊢
  split at h
  · cases h
  · rename_i h0
    rw [if_neg h0]
    rw [if_neg hk]
    try rw [if_neg hk] at h
    split at h
    · rename_i b S1 h2
      split at h
      · rename_i h3
        cases h
        simp only [h2]
        rw [if_pos ⟨h3.1, h3.2.1⟩]
        exact ⟨b, rfl⟩
      · cases h
    · cases h
theorem zdep_inv {n y pc a b d : Nat} {L S : List Value} {M : zM} {r : zO × zM × Nat} {D : Nat}
    (hc : ∀ (d : Nat) (L' : List Value) (M : zM) (r : zO × zM × Nat) (S' : List Value), a < 9000 → zarg M (zR a) b S = some (L', S') → zx zR zT n d a 0 (L' ++ List.replicate (zRl (zR a) - L'.length) (.float 0)) [] M = some r → ∃ n', zx zR zT n' D a 0 (L' ++ List.replicate (zRl (zR a) - L'.length) (.float 0)) [] M = some r)
    (hk : ∀ (d : Nat) (S : List Value) (M : zM) (r : zO × zM × Nat), zx zR zT n d y (pc + 3) L S M = some r → ∃ n', zx zR zT n' (D + 1) y (pc + 3) L S M = some r)
    (hj : ∀ (E h : Nat), zhnd (zRe (zR y)) pc E = some h → ∀ (d : Nat) (S : List Value) (M : zM) (r : zO × zM × Nat), zx zR zT n d y h L S M = some r → ∃ n', zx zR zT n' (D + 1) y h L S M = some r)
    (h : zinv zR (zx zR zT n) d y pc L S M a b = some r) : ∃ n', zinv zR (zx zR zT n') (D + 1) y pc L S M a b = some r := by
  unfold zinv at h ⊢
  by_cases ha : a < 9000
  · rw [if_pos ha] at h ⊢
    cases hq : zarg M (zR a) b S with
    | none => simp only [hq] at h; cases h
    | some q =>
      obtain ⟨as, S'⟩ := q
      simp only [hq] at h ⊢
      cases d with
      | zero => cases h
      | succ d =>
        simp only at h ⊢
        cases hx : zx zR zT n d a 0 (as ++ List.replicate (zRl (zR a) - as.length) (.float 0)) [] M with
        | none => simp only [hx] at h; cases h
        | some q =>
          obtain ⟨o1, M1, u1⟩ := q
          obtain ⟨n1, h1⟩ := hc d as M _ S' ha hq hx
          simp only [hx] at h
          cases o1 with
          | inl v =>
            simp only at h
            obtain ⟨q2, h2⟩ := zcost_so h
            obtain ⟨n2, h3⟩ := hk _ _ _ _ h2
            refine ⟨n1 + n2, ?_⟩
            rw [zx_mono _ _ _ _ _ _ _ _ h1 (n1 + n2) D (by omega) (Nat.le_refl D)]
            simp only
            rw [zx_mono _ _ _ _ _ _ _ _ h3 (n1 + n2) (D + 1) (by omega) (Nat.le_refl _)]
            rw [h2] at h
            exact h
          | inr E =>
            simp only at h
            cases hh : zhnd (zRe (zR y)) pc E with
            | none =>
              simp only [hh] at h
              refine ⟨n1, ?_⟩
              rw [h1]
              simp only [hh]
              exact h
            | some hd =>
              simp only [hh] at h
              obtain ⟨q2, h2⟩ := zcost_so h
              obtain ⟨n2, h3⟩ := hj E hd hh _ _ _ _ h2
              refine ⟨n1 + n2, ?_⟩
              rw [zx_mono _ _ _ _ _ _ _ _ h1 (n1 + n2) D (by omega) (Nat.le_refl D)]
              simp only [hh]
              rw [zx_mono _ _ _ _ _ _ _ _ h3 (n1 + n2) (D + 1) (by omega) (Nat.le_refl _)]
              rw [h2] at h
              exact h
  · rw [if_neg ha] at h; cases h
/-- one step of the induction: calls are told apart by hc -/
theorem zdep_fin {n y pc d D : Nat} {L S : List Value} {M : zM} {op : zOp} {r : zO × zM × Nat}
    (hk : ∀ (d pc : Nat) (L S : List Value) (M : zM) (r : zO × zM × Nat), zx zR zT n d y pc L S M = some r → ∃ n', zx zR zT n' D y pc L S M = some r)
    (hc : ∀ a b, zrko y op = true → op.2.2.1 = a → op.2.2.2.1 = b → (match op.1 with | .invokevirtual _ => True | .invokespecial _ => True | .invokestatic _ => True | _ => False) → zinv zR (zx zR zT n) d y pc L S M a b = some r → ∃ n', zinv zR (zx zR zT n') D y pc L S M a b = some r)
    (ho : zrko y op = true) (h : zfin zR (zx zR zT n) d y pc L S M op = some r) : ∃ n', zfin zR (zx zR zT n') D y pc L S M op = some r := by
  have hz : ∀ (u : Nat) (pc : Nat) (L S : List Value) (M : zM), zcost u (zx zR zT n d y pc L S M) = some r → ∃ n', zcost u (zx zR zT n' D y pc L S M) = some r := by
    intro u pc L S M hh
    obtain ⟨q2, h2⟩ := zcost_so hh
    obtain ⟨n2, h3⟩ := hk _ _ _ _ _ _ h2
    refine ⟨n2, ?_⟩
    rw [h3]
    rw [h2] at hh
    exact hh
  obtain ⟨i, len, a, b, c, w⟩ := op
  unfold zfin at h ⊢
  cases i <;> simp only at h ⊢ <;> try (cases h; done)
  case return_ => exact ⟨0, h⟩
  case ireturn => exact ⟨0, h⟩
  case areturn => exact ⟨0, h⟩
  case new =>
    by_cases h1 : a < 50
    · rw [if_pos h1] at h
      by_cases h2 : M.1.length < 1000000
      · rw [if_pos h2] at h
        obtain ⟨n', hn⟩ := hz _ _ _ _ _ h
        exact ⟨n', by rw [if_pos h1, if_pos h2]; exact hn⟩
      · rw [if_neg h2] at h; cases h
    · rw [if_neg h1] at h
      exact ⟨0, by rw [if_neg h1]; exact h⟩
  case newarray =>
    cases S with
    | nil => cases h
    | cons v S =>
      cases v <;> simp only at h ⊢ <;> try (cases h; done)
      rename_i k
      by_cases h1 : k < 0 ∨ 1000000 ≤ k.toNatClampNeg ∨ 1000000 ≤ M.1.length
      · rw [if_pos h1] at h; cases h
      · rw [if_neg h1] at h
        by_cases h2 : a = 0
        · rw [if_pos h2] at h
          obtain ⟨n', hn⟩ := hz _ _ _ _ _ h
          exact ⟨n', by rw [if_neg h1, if_pos h2]; exact hn⟩
        · rw [if_neg h2] at h
          obtain ⟨n', hn⟩ := hz _ _ _ _ _ h
          exact ⟨n', by rw [if_neg h1, if_neg h2]; exact hn⟩
  case anewarray =>
    cases S with
    | nil => cases h
    | cons v S =>
      cases v <;> simp only at h ⊢ <;> try (cases h; done)
      rename_i k
      by_cases h1 : k < 0 ∨ 1000000 ≤ k.toNatClampNeg ∨ 1000000 ≤ M.1.length
      · rw [if_pos h1] at h; cases h
      · rw [if_neg h1] at h
        obtain ⟨n', hn⟩ := hz _ _ _ _ _ h
        exact ⟨n', by rw [if_neg h1]; exact hn⟩
  case invokevirtual f => exact hc a b ho rfl rfl trivial h
  case invokespecial f => exact hc a b ho rfl rfl trivial h
  case invokestatic f => exact hc a b ho rfl rfl trivial h
/-- what a call's check says -/
theorem zrko_c {y a b : Nat} {op : zOp} (h : zrko y op = true) (e1 : op.2.2.1 = a) (e2 : op.2.2.2.1 = b) (hm : match op.1 with | .invokevirtual _ => True | .invokespecial _ => True | .invokestatic _ => True | _ => False) (ha : a < 9000) : a < 386 ∧ ((zrk a < zrk y ∧ (a = 315 → b = 1)) ∨ (a = 315 ∧ y = 315)) := by
  obtain ⟨i, len, a', b', c, w⟩ := op
  have e1 : a' = a := e1
  have e2 : b' = b := e2
  subst e1
  subst e2
  have hc : (Nat.ble 9000 a' || (Nat.blt a' 386 && ((Nat.blt (zrk a') (zrk y) && (!(Nat.beq a' 315) || Nat.beq b' 1)) || (Nat.beq a' 315 && Nat.beq y 315)))) = true := by
    cases i <;> first | exact h | exact absurd hm not_false
  rw [Bool.or_eq_true, Bool.and_eq_true, Bool.or_eq_true, Bool.and_eq_true, Bool.and_eq_true, Bool.or_eq_true] at hc
  rcases hc with hc | ⟨h1, hc⟩
  · have := Nat.le_of_ble_eq_true hc
    omega
  · refine ⟨Nat.le_of_ble_eq_true h1, ?_⟩
    rcases hc with ⟨h2, h3⟩ | ⟨h2, h3⟩
    · refine Or.inl ⟨Nat.le_of_ble_eq_true h2, fun e => ?_⟩
      rcases h3 with h3 | h3
      · rw [e] at h3
        exact absurd h3 (by decide)
      · exact Nat.eq_of_beq_eq_true h3
    · exact Or.inr ⟨Nat.eq_of_beq_eq_true h2, Nat.eq_of_beq_eq_true h3⟩
/-- methods of rank 0 call nothing -/
theorem zdep0 : ∀ (n d y pc : Nat) (L S : List Value) (M : zM) (r : zO × zM × Nat), y < 386 → zrk y = 0 → zx zR zT n d y pc L S M = some r → ∃ n', zx zR zT n' 0 y pc L S M = some r := by
  intro n
  induction n with
  | zero => intro d y pc L S M r _ _ h; unfold zx at h; cases h
  | succ n ih =>
    intro d y pc L S M r hy h0 h
    rw [zx_succ] at h
    cases hf : zfet (zT y) pc with
    | none => simp only [hf] at h; cases h
    | some op =>
      simp only [hf] at h
      cases hs : zstep op pc L S M with
      | some c =>
        simp only [hs] at h
        obtain ⟨n', hn⟩ := ih _ _ _ _ _ _ _ hy h0 h
        exact ⟨n' + 1, by rw [zx_st hf hs]; exact hn⟩
      | none =>
        simp only [hs] at h
        obtain ⟨n', hn⟩ := zdep_fin (D := 0) (fun d pc L S M r hh => ih d y pc L S M r hy h0 hh) (fun a b ho e1 e2 hm hh => by
          by_cases ha : a < 9000
          · obtain ⟨a1, a2⟩ := zrko_c ho e1 e2 hm ha
            rcases a2 with ⟨a2, -⟩ | ⟨-, a2⟩
            · omega
            · rw [a2] at h0
              exact absurd h0 (by decide)
          · unfold zinv at hh
            rw [if_neg ha] at hh
            cases hh) (zrk_op hy hf) h
        exact ⟨n' + 1, by rw [zx_fin hf hs]; exact hn⟩
/-- the rest of writeDigits, behind its call of itself -/
theorem o315_14 {n d q : Nat} {x : Int32} {S : List Value} {M : zM} {r : zO × zM × Nat} (h : zx zR zT n d 315 14 [.ref q, .int x] S M = some r) : ∃ n', zx zR zT n' 1 315 14 [.ref q, .int x] S M = some r := by
  have g1 : ∀ d n : Nat, zx zR zT (n + 4) d 315 14 [.ref q, .int x] S M = zx zR zT n d 315 20 [.ref q, .int x] (.int (Int32.ofInt 10) :: .int x :: .int (Int32.ofInt 48) :: .ref q :: S) M := fun d n => zx_go 4 14 _ _ _ (20, [.ref q, .int x], (.int (Int32.ofInt 10) :: .int x :: .int (Int32.ofInt 48) :: .ref q :: S), M) rfl n d
  have g2 : ∀ d n : Nat, zx zR zT (n + 1) d 315 20 [.ref q, .int x] (.int (Int32.ofInt 10) :: .int x :: .int (Int32.ofInt 48) :: .ref q :: S) M = zx zR zT n d 315 21 [.ref q, .int x] (.int (x - x / Int32.ofInt 10 * Int32.ofInt 10) :: .int (Int32.ofInt 48) :: .ref q :: S) M := fun d n => zx_st (op := (.irem, 1, 0, 0, 0, 0)) (c := (21, [.ref q, .int x], (.int (x - x / Int32.ofInt 10 * Int32.ofInt 10) :: .int (Int32.ofInt 48) :: .ref q :: S), M)) rfl (by simp only [zstep]; rw [if_neg (by decide)]) n d
  have g3 : ∀ d n : Nat, zx zR zT (n + 1) d 315 21 [.ref q, .int x] (.int (x - x / Int32.ofInt 10 * Int32.ofInt 10) :: .int (Int32.ofInt 48) :: .ref q :: S) M = zx zR zT n d 315 22 [.ref q, .int x] (.int (Int32.ofInt 48 + (x - x / Int32.ofInt 10 * Int32.ofInt 10)) :: .ref q :: S) M := fun d n => zx_go 1 21 _ _ _ (22, [.ref q, .int x], (.int (Int32.ofInt 48 + (x - x / Int32.ofInt 10 * Int32.ofInt 10)) :: .ref q :: S), M) rfl n d
  generalize Int32.ofInt 48 + (x - x / Int32.ofInt 10 * Int32.ofInt 10) = z at *
  have g4 : ∀ d n : Nat, zx zR zT (n + 1) d 315 22 [.ref q, .int x] (.int z :: .ref q :: S) M = zinv zR (zx zR zT n) d 315 22 [.ref q, .int x] (.int z :: .ref q :: S) M 314 1 := fun d n => zx_fin (op := (.invokevirtual 400, 3, 314, 1, 0, 9212)) rfl rfl n d
  have gA : ∀ d n : Nat, zx zR zT (n + 7) d 315 14 [.ref q, .int x] S M = zinv zR (zx zR zT n) d 315 22 [.ref q, .int x] (.int z :: .ref q :: S) M 314 1 := fun d n => by
    rw [show n + 7 = n + 1 + 1 + 1 + 4 by omega, g1, g2, g3, g4]
  have h2 := zx_mono _ _ _ _ _ _ _ _ h (n + 7) d (by omega) (Nat.le_refl d)
  rw [gA] at h2
  obtain ⟨n', hn⟩ := zdep_inv (D := 0) (fun d L' M r S' _ _ hh => zdep0 _ _ _ _ _ _ _ _ (by decide) (by decide) hh) (fun d S M r hh => by
    cases n with
    | zero => unfold zx at hh; cases hh
    | succ n =>
      rw [zx_fin (op := (.return_, 1, 0, 0, 0, 0)) rfl rfl] at hh
      exact ⟨n + 1, by rw [zx_fin (op := (.return_, 1, 0, 0, 0, 0)) rfl rfl]; exact hh⟩) (fun E h9 hh => by cases hh) h2
  exact ⟨n' + 7, by rw [gA]; exact hn⟩
theorem o315 : ∀ (k : Nat) (x : Int32), x.toInt < 10 ^ (k + 1) → ∀ (n d q : Nat) (M : zM) (r : zO × zM × Nat), zx zR zT n d 315 0 [.ref q, .int x] [] M = some r → ∃ n', zx zR zT n' (k + 1) 315 0 [.ref q, .int x] [] M = some r := by
  intro k
  induction k with
  | zero =>
    intro x hx n d q M r h
    have hx9 : x ≤ Int32.ofInt 9 := by
      rw [jI_inv x, show Int32.ofInt 9 = jI 9 from rfl, jI_le (jI_lo x) (jI_hi x) (by decide) (by decide)]
      omega
    have g1 : ∀ d n : Nat, zx zR zT (n + 2) d 315 0 [.ref q, .int x] [] M = zx zR zT n d 315 3 [.ref q, .int x] [.int (Int32.ofInt 9), .int x] M := fun d n => zx_go 2 0 _ _ _ (3, [.ref q, .int x], [.int (Int32.ofInt 9), .int x], M) rfl n d
    have g2 : ∀ d n : Nat, zx zR zT (n + 1) d 315 3 [.ref q, .int x] [.int (Int32.ofInt 9), .int x] M = zx zR zT n d 315 14 [.ref q, .int x] [] M := fun d n => zx_st (op := (.if_icmp .le 11, 3, 14, 0, 0, 0)) (c := (14, [.ref q, .int x], [], M)) rfl (by simp only [zstep, zifc]; rw [if_pos hx9]) n d
    have gA : ∀ d n : Nat, zx zR zT (n + 3) d 315 0 [.ref q, .int x] [] M = zx zR zT n d 315 14 [.ref q, .int x] [] M := fun d n => by
      rw [show n + 3 = n + 1 + 2 by omega, g1, g2]
    have h2 := zx_mono _ _ _ _ _ _ _ _ h (n + 3) d (by omega) (Nat.le_refl d)
    rw [gA] at h2
    obtain ⟨n', hn⟩ := o315_14 h2
    exact ⟨n' + 3, by rw [gA]; exact hn⟩
  | succ k ih =>
    intro x hx n d q M r h
    have g1 : ∀ d n : Nat, zx zR zT (n + 2) d 315 0 [.ref q, .int x] [] M = zx zR zT n d 315 3 [.ref q, .int x] [.int (Int32.ofInt 9), .int x] M := fun d n => zx_go 2 0 _ _ _ (3, [.ref q, .int x], [.int (Int32.ofInt 9), .int x], M) rfl n d
    by_cases hx9 : x ≤ Int32.ofInt 9
    · have g2 : ∀ d n : Nat, zx zR zT (n + 1) d 315 3 [.ref q, .int x] [.int (Int32.ofInt 9), .int x] M = zx zR zT n d 315 14 [.ref q, .int x] [] M := fun d n => zx_st (op := (.if_icmp .le 11, 3, 14, 0, 0, 0)) (c := (14, [.ref q, .int x], [], M)) rfl (by simp only [zstep, zifc]; rw [if_pos hx9]) n d
      have gA : ∀ d n : Nat, zx zR zT (n + 3) d 315 0 [.ref q, .int x] [] M = zx zR zT n d 315 14 [.ref q, .int x] [] M := fun d n => by
        rw [show n + 3 = n + 1 + 2 by omega, g1, g2]
      have h2 := zx_mono _ _ _ _ _ _ _ _ h (n + 3) d (by omega) (Nat.le_refl d)
      rw [gA] at h2
      obtain ⟨n', hn⟩ := o315_14 h2
      refine ⟨n' + 3, ?_⟩
      rw [gA]
      exact zx_mono _ _ _ _ _ _ _ _ hn n' (k + 1 + 1) (Nat.le_refl _) (by omega)
    · have g2 : ∀ d n : Nat, zx zR zT (n + 1) d 315 3 [.ref q, .int x] [.int (Int32.ofInt 9), .int x] M = zx zR zT n d 315 6 [.ref q, .int x] [] M := fun d n => zx_st (op := (.if_icmp .le 11, 3, 14, 0, 0, 0)) (c := (6, [.ref q, .int x], [], M)) rfl (by simp only [zstep, zifc]; rw [if_neg hx9]) n d
      have g3 : ∀ d n : Nat, zx zR zT (n + 3) d 315 6 [.ref q, .int x] [] M = zx zR zT n d 315 10 [.ref q, .int x] [.int (Int32.ofInt 10), .int x, .ref q] M := fun d n => zx_go 3 6 _ _ _ (10, [.ref q, .int x], [.int (Int32.ofInt 10), .int x, .ref q], M) rfl n d
      have g4 : ∀ d n : Nat, zx zR zT (n + 1) d 315 10 [.ref q, .int x] [.int (Int32.ofInt 10), .int x, .ref q] M = zx zR zT n d 315 11 [.ref q, .int x] [.int (x / Int32.ofInt 10), .ref q] M := fun d n => zx_st (op := (.idiv, 1, 0, 0, 0, 0)) (c := (11, [.ref q, .int x], [.int (x / Int32.ofInt 10), .ref q], M)) rfl (by simp only [zstep]; rw [if_neg (by decide)]) n d
      have hz : (x / Int32.ofInt 10).toInt < 10 ^ (k + 1) := by
        have h9 : 9 < x.toInt := by
          apply Classical.byContradiction
          intro h9
          apply hx9
          rw [jI_inv x, show Int32.ofInt 9 = jI 9 from rfl, jI_le (jI_lo x) (jI_hi x) (by decide) (by decide)]
          omega
        have hd : x / Int32.ofInt 10 = jI (x.toInt / 10) := by
          have h0 := jI_dv (a := x.toInt) (b := 10) (by omega) (jI_hi x) (by decide) (by decide)
          rw [jI_of] at h0
          exact h0
        have hh := jI_hi x
        rw [hd, jI_toInt (by omega) (by omega)]
        have e : (10 : Int) ^ (k + 1 + 1) = 10 ^ (k + 1) * 10 := Int.pow_succ 10 (k + 1)
        rw [e] at hx
        generalize (10 : Int) ^ (k + 1) = p at *
        omega
      generalize x / Int32.ofInt 10 = z at *
      have g5 : ∀ d n : Nat, zx zR zT (n + 1) d 315 11 [.ref q, .int x] [.int z, .ref q] M = zinv zR (zx zR zT n) d 315 11 [.ref q, .int x] [.int z, .ref q] M 315 1 := fun d n => zx_fin (op := (.invokevirtual 397, 3, 315, 1, 0, 9224)) rfl rfl n d
      have gA : ∀ d n : Nat, zx zR zT (n + 8) d 315 0 [.ref q, .int x] [] M = zinv zR (zx zR zT n) d 315 11 [.ref q, .int x] [.int z, .ref q] M 315 1 := fun d n => by
        rw [show n + 8 = n + 1 + 1 + 3 + 1 + 2 by omega, g1, g2, g3, g4, g5]
      have h2 := zx_mono _ _ _ _ _ _ _ _ h (n + 8) d (by omega) (Nat.le_refl d)
      rw [gA] at h2
      obtain ⟨n', hn⟩ := zdep_inv (D := k + 1) (fun d L' M r S' _ hq hh => by
        obtain ⟨q', hq'⟩ := zarg_inv (by decide) hq
        have e : zargI (zR 315) 1 [.int z, .ref q] = some ([.ref q, .int z], [], q) := rfl
        rw [e] at hq'
        have e2 : L' = [.ref q, .int z] := by
          have := Option.some.inj hq'
          exact (congrArg Prod.fst this).symm
        subst e2
        exact ih z hz _ _ _ _ _ hh) (fun d S M r hh => by
        obtain ⟨n2, h3⟩ := o315_14 hh
        exact ⟨n2, zx_mono _ _ _ _ _ _ _ _ h3 n2 (k + 1 + 1) (Nat.le_refl _) (by omega)⟩) (fun E h9 hh => by cases hh) h2
      exact ⟨n' + 8, by rw [gA]; exact hn⟩
theorem o315a {n d q : Nat} {v : Value} {M : zM} {r : zO × zM × Nat} (h : zx zR zT n d 315 0 [.ref q, v] [] M = some r) : ∃ n', zx zR zT n' 12 315 0 [.ref q, v] [] M = some r := by
  cases v with
  | int x =>
    obtain ⟨n', hn⟩ := o315 9 x (by
      have := jI_hi x
      have e : (10 : Int) ^ (9 + 1) = 10000000000 := by decide
      omega) n d q M r h
    exact ⟨n', zx_mono _ _ _ _ _ _ _ _ hn n' 12 (Nat.le_refl _) (by decide)⟩
  | _ =>
    exfalso
    cases n with
    | zero => unfold zx at h; cases h
    | succ n =>
      rw [zx_fin (op := (.iload_n 1, 1, 0, 0, 0, 0)) rfl rfl] at h
      cases h
theorem zargI_1 {r : zRec} {S as S' : List Value} {q : Nat} (h : zargI r 1 S = some (as, S', q)) : ∃ v, as = [.ref q, v] := by
  unfold zargI at h
  simp only at h
  cases S with
  | nil =>
    rw [if_pos (Or.inl (by decide))] at h
    cases h
  | cons v S =>
    split at h
    · cases h
    · split at h
      · cases h
      · split at h
        · split at h
          · cases h
            exact ⟨v, rfl⟩
          · cases h
        · cases h
theorem zdep : ∀ (n d y pc : Nat) (L S : List Value) (M : zM) (r : zO × zM × Nat), y < 386 → y ≠ 315 → zx zR zT n d y pc L S M = some r → ∃ n', zx zR zT n' (zrk y) y pc L S M = some r := by
  intro n
  induction n with
  | zero => intro d y pc L S M r _ _ h; unfold zx at h; cases h
  | succ n ih =>
    intro d y pc L S M r hy hne h
    rw [zx_succ] at h
    cases hf : zfet (zT y) pc with
    | none => simp only [hf] at h; cases h
    | some op =>
      simp only [hf] at h
      cases hs : zstep op pc L S M with
      | some c =>
        simp only [hs] at h
        obtain ⟨n', hn⟩ := ih _ _ _ _ _ _ _ hy hne h
        exact ⟨n' + 1, by rw [zx_st hf hs]; exact hn⟩
      | none =>
        simp only [hs] at h
        obtain ⟨n', hn⟩ := zdep_fin (D := zrk y) (fun d pc L S M r hh => ih d y pc L S M r hy hne hh) (fun a b ho e1 e2 hm hh => by
          by_cases ha : a < 9000
          · obtain ⟨a1, a2⟩ := zrko_c ho e1 e2 hm ha
            have a3 : zrk a < zrk y ∧ (a = 315 → b = 1) := by
              rcases a2 with a2 | ⟨-, a2⟩
              · exact a2
              · exact absurd a2 hne
            obtain ⟨D, hD⟩ : ∃ D, zrk y = D + 1 := ⟨zrk y - 1, by omega⟩
            rw [hD]
            refine zdep_inv (D := D) (fun d L' M r S' _ hq hx => ?_) (fun d S M r hx => by
              have := ih _ _ _ _ _ _ _ hy hne hx
              rw [hD] at this
              exact this) (fun E h9 _ d S M r hx => by
              have := ih _ _ _ _ _ _ _ hy hne hx
              rw [hD] at this
              exact this) hh
            by_cases h315 : a = 315
            · have hb := a3.2 h315
              subst hb
              subst h315
              obtain ⟨q', hq'⟩ := zarg_inv (by decide) hq
              obtain ⟨v, rfl⟩ := zargI_1 hq'
              obtain ⟨n1, h1⟩ := o315a hx
              have hr : zrk 315 = 12 := by decide
              exact ⟨n1, zx_mono _ _ _ _ _ _ _ _ h1 n1 D (Nat.le_refl _) (by omega)⟩
            · obtain ⟨n1, h1⟩ := ih _ _ _ _ _ _ _ a1 h315 hx
              exact ⟨n1, zx_mono _ _ _ _ _ _ _ _ h1 n1 D (Nat.le_refl _) (by omega)⟩
          · unfold zinv at hh
            rw [if_neg ha] at hh
            cases hh) (zrk_op hy hf) h
        exact ⟨n' + 1, by rw [zx_fin hf hs]; exact hn⟩
