/-! ===== a run that sees neither the script nor a long row ===== -/
/-- no script, no long row -/
def zwo (op : zOp) (S : List Value) : Bool := match op.1 with
  | .arraylength => (match S with | .ref r :: _ => !(Nat.beq r 1000000) | _ => false)
  | .iaload => (match S with | _ :: .ref r :: _ => !(Nat.beq r 1000000) | _ => false)
  | .lastore => false
  | .laload => false
  | .newarray _ => Nat.beq op.2.2.1 0
  | _ => true
def zx2 : Nat → Nat → Nat → Nat → List Value → List Value → zM → Option (zO × zM × Nat)
  | 0, _, _, _, _, _, _ => none
  | n + 1, d, y, pc, L, S, M => match zfet (zT y) pc with
    | none => none
    | some op => match zwo op S with
      | false => none
      | true => match zstep op pc L S M with
        | some c => zx2 n d y c.1 c.2.1 c.2.2.1 c.2.2.2
        | none => zfin zR (zx2 n) d y pc L S M op
section
variable {H H' : zSh} {I I' : zI} {W W' W2 : zW} {M' : zM}
theorem zputW {ci k fl r : Nat} {v : Value} (h : zput (H, I, W) ci k fl r v = some M') : zput (H, I, W2) ci k fl r v = some (M'.1, M'.2.1, W2) := by
  unfold zput at h ⊢
  simp only at h ⊢
  cases hr : H[r]? with
  | none => simp only [hr] at h; cases h
  | some t =>
    simp only [hr] at h ⊢
    by_cases h1 : t.1 = 100 + ci
    · rw [if_pos h1] at h ⊢
      cases hk : t.2.2[k]? with
      | none => simp only [hk] at h; cases h
      | some c =>
        simp only [hk] at h ⊢
        cases v <;> simp only at h ⊢ <;> (try (cases h; done)) <;> (split at h <;> (first | (cases h; done) | (rename_i hc; cases h; rw [if_pos hc])))
    · rw [if_neg h1] at h; cases h
theorem ziastW {r : Nat} {i x : Int32} (h : ziast (H, I, W) r i x = some M') : ziast (H, I, W2) r i x = some (M'.1, M'.2.1, W2) := by
  unfold ziast at h ⊢
  simp only at h ⊢
  cases hr : H[r]? with
  | none => simp only [hr] at h; cases h
  | some t =>
    simp only [hr] at h ⊢
    split at h
    · rename_i h1
      rw [if_pos h1]
      split at h
      · rename_i h2
        rw [if_pos h2]
        cases h
        rfl
      · cases h
    · cases h
theorem zaastW {r v : Nat} {i : Int32} (h : zaast (H, I, W) r i v = some M') : zaast (H, I, W2) r i v = some (M'.1, M'.2.1, W2) := by
  unfold zaast at h ⊢
  simp only at h ⊢
  cases hr : H[r]? with
  | none => simp only [hr] at h; cases h
  | some t =>
    simp only [hr] at h ⊢
    split at h
    · rename_i h1
      rw [if_pos h1]
      split at h
      · rename_i h2
        rw [if_pos h2]
        cases hv : H[v]? with
        | none => simp only [hv] at h; cases h
        | some u =>
          simp only [hv] at h ⊢
          split at h
          · rename_i h3
            rw [if_pos h3]
            cases h
            rfl
          · cases h
      · cases h
    · cases h
theorem zcopyW {r0 r1 : Nat} {sp dp n : Int32} (h : zcopy (H, I, W) r0 sp r1 dp n = some M') : zcopy (H, I, W2) r0 sp r1 dp n = some (M'.1, M'.2.1, W2) := by
  unfold zcopy at h ⊢
  simp only at h ⊢
  cases hr : H[r0]? with
  | none => simp only [hr] at h; cases h
  | some t =>
    cases hr1 : H[r1]? with
    | none => simp only [hr, hr1] at h; cases h
    | some u =>
      simp only [hr, hr1] at h ⊢
      split at h
      · rename_i h1
        rw [if_pos h1]
        cases h
        rfl
      · cases h
theorem ziald_e {r : Nat} {i : Int32} (hr : r ≠ 1000000) : ziald (H, I, W2) r i = ziald (H, I, W) r i := by
  unfold ziald
  rw [if_neg hr, if_neg hr]
theorem zalen_e {r : Nat} (hr : r ≠ 1000000) : zalen (H, I, W2) r = zalen (H, I, W) r := by
  unfold zalen
  rw [if_neg hr, if_neg hr]
set_option maxHeartbeats 4000000 in
theorem zstepW {op : zOp} {pc pc' : Nat} {L S L' S' : List Value} (hz : zwo op S = true) (h : zstep op pc L S (H, I, W) = some (pc', L', S', M')) : zstep op pc L S (H, I, W2) = some (pc', L', S', (M'.1, M'.2.1, W2)) := by
  obtain ⟨i, len, a, b, c, w⟩ := op
  cases i
  case getfield f =>
    simp only [zstep] at h ⊢
    split at h
    · rw [show zget (H, I, W2) = zget (H, I, W) from rfl]
      split at h
      · rename_i hv
        try simp only [hv]
        cases h
        rfl
      · cases h
    · cases h
  case putfield f =>
    simp only [zstep] at h ⊢
    split at h
    · split at h
      · rename_i hv
        rw [zputW hv]
        cases h
        rfl
      · cases h
    · cases h
  case iaload =>
    simp only [zstep] at h ⊢
    split at h
    · rename_i x r S1
      have hr : r ≠ 1000000 := by
        intro e
        rw [e] at hz
        exact absurd hz Bool.false_ne_true
      rw [ziald_e (W := W) hr]
      split at h
      · rename_i hv
        try simp only [hv]
        cases h
        rfl
      · cases h
    · cases h
  case arraylength =>
    simp only [zstep] at h ⊢
    split at h
    · rename_i r S1
      have hr : r ≠ 1000000 := by
        intro e
        rw [e] at hz
        exact absurd hz Bool.false_ne_true
      rw [zalen_e (W := W) hr]
      split at h
      · rename_i hv
        try simp only [hv]
        cases h
        rfl
      · cases h
    · cases h
  case aaload =>
    simp only [zstep] at h ⊢
    split at h
    · rw [show zaald (H, I, W2) = zaald (H, I, W) from rfl]
      split at h
      · rename_i hv
        try simp only [hv]
        cases h
        rfl
      · cases h
    · cases h
  case iastore =>
    simp only [zstep] at h ⊢
    split at h
    · split at h
      · rename_i hv
        rw [ziastW hv]
        cases h
        rfl
      · cases h
    · cases h
  case aastore =>
    simp only [zstep] at h ⊢
    split at h
    · split at h
      · rename_i hv
        rw [zaastW hv]
        cases h
        rfl
      · cases h
    · cases h
  case lastore => exact absurd hz Bool.false_ne_true
  case laload => exact absurd hz Bool.false_ne_true
  case invokestatic f =>
    simp only [zstep] at h ⊢
    split at h
    · rename_i ha
      rw [if_pos ha]
      split at h
      · split at h
        · rename_i hs
          rw [if_pos hs]
          split at h
          · rename_i hv
            rw [zcopyW hv]
            cases h
            rfl
          · cases h
        · cases h
      · cases h
    · rename_i ha
      rw [if_neg ha]
      split at h
      · rename_i hv
        try simp only [hv]
        cases h
        rfl
      · cases h
  case ifCond cd off =>
    simp only [zstep] at h ⊢
    split at h
    · cases cd <;> simp only [zifc] at h ⊢ <;> split at h <;> rename_i hc <;> (first | rw [if_pos hc] | rw [if_neg hc]) <;> cases h <;> rfl
    · cases h
  case if_icmp cd off =>
    simp only [zstep] at h ⊢
    split at h
    · cases cd <;> simp only [zifc] at h ⊢ <;> split at h <;> rename_i hc <;> (first | rw [if_pos hc] | rw [if_neg hc]) <;> cases h <;> rfl
    · cases h
  case tableswitch df lo hi offs =>
    simp only [zstep] at h ⊢
    split at h
    · split at h
      · rename_i h1
        rw [if_pos h1]
        split at h
        · rename_i h2
          rw [if_pos h2]
          cases h
          rfl
        · cases h
      · rename_i h1
        rw [if_neg h1]
        split at h
        · try simp only [*]
          split at h
          · rename_i h2
            rw [if_pos h2]
            cases h
            rfl
          · cases h
        · cases h
    · cases h
  all_goals simp only [zstep] at h ⊢
  all_goals (try (cases h; done))
  all_goals (try (cases h; rfl))
  all_goals (repeat' split at h)
  all_goals (try (cases h; done))
  all_goals (try (cases h; rfl))
  all_goals (try (cases h; simp only [*]; done))
  all_goals (try (cases h; simp_all; done))
theorem zstepN {op : zOp} {pc : Nat} {L S : List Value} (hz : zwo op S = true) (h : zstep op pc L S (H, I, W) = none) : zstep op pc L S (H, I, W2) = none := by
  cases hc : zstep op pc L S (H, I, W2) with
  | none => rfl
  | some c =>
    obtain ⟨pc', L', S', M'⟩ := c
    have := zstepW (W2 := W) hz hc
    rw [h] at this
    cases this
theorem zcostW {u : Nat} {x y : Option (zO × zM × Nat)} {o : zO} {k : Nat} (hm : ∀ o H' I' W' k, x = some (o, (H', I', W'), k) → y = some (o, (H', I', W2), k)) (h : zcost u x = some (o, (H', I', W'), k)) : zcost u y = some (o, (H', I', W2), k) := by
  cases hx : x with
  | none => rw [hx] at h; cases h
  | some q =>
    obtain ⟨o1, ⟨H1, I1, W1⟩, k1⟩ := q
    rw [hm _ _ _ _ _ hx]
    rw [hx] at h
    cases h
    rfl
theorem zfinW {X X' : Nat → Nat → Nat → List Value → List Value → zM → Option (zO × zM × Nat)} (hX : ∀ d y pc L S H I W o H' I' W' u, X d y pc L S (H, I, W) = some (o, (H', I', W'), u) → X' d y pc L S (H, I, W2) = some (o, (H', I', W2), u))
    {op : zOp} {d y pc : Nat} {L S : List Value} {o : zO} {u : Nat} (hz : zwo op S = true) (h : zfin zR X d y pc L S (H, I, W) op = some (o, (H', I', W'), u)) : zfin zR X' d y pc L S (H, I, W2) op = some (o, (H', I', W2), u) := by
  have hcall : ∀ a b : Nat, zinv zR X d y pc L S (H, I, W) a b = some (o, (H', I', W'), u) → zinv zR X' d y pc L S (H, I, W2) a b = some (o, (H', I', W2), u) := by
    intro a b h
    unfold zinv at h ⊢
    rw [show zarg (H, I, W2) (zR a) b S = zarg (H, I, W) (zR a) b S from rfl]
    cases hq : (if a < 9000 then zarg (H, I, W) (zR a) b S else none) with
    | none => simp only [hq] at h; cases h
    | some q =>
      obtain ⟨as, S'⟩ := q
      simp only [hq] at h ⊢
      cases d with
      | zero => cases h
      | succ d =>
        simp only at h ⊢
        cases hx : X d a 0 (as ++ List.replicate (zRl (zR a) - as.length) (.float 0)) [] (H, I, W) with
        | none => simp only [hx] at h; cases h
        | some q =>
          obtain ⟨o1, ⟨H1, I1, W1⟩, u1⟩ := q
          rw [hX _ _ _ _ _ _ _ _ _ _ _ _ _ hx]
          simp only [hx] at h ⊢
          cases o1 with
          | inl v => exact zcostW (fun o H' I' W' k hk => hX _ _ _ _ _ _ _ _ _ _ _ _ _ hk) h
          | inr E =>
            simp only at h ⊢
            cases hh : zhnd (zRe (zR y)) pc E with
            | none => simp only [hh] at h ⊢; cases h; rfl
            | some hd => simp only [hh] at h ⊢; exact zcostW (fun o H' I' W' k hk => hX _ _ _ _ _ _ _ _ _ _ _ _ _ hk) h
  obtain ⟨i, len, a, b, c, w⟩ := op
  unfold zfin at h ⊢
  cases i <;> simp only at h ⊢ <;> try (cases h; done)
  case return_ =>
    split at h
    · split at h
      · rename_i hc; rw [if_pos hc]; cases h; rfl
      · cases h
    · cases h
  case ireturn =>
    split at h
    · split at h
      · rename_i hc; rw [if_pos hc]; cases h; rfl
      · cases h
    · cases h
  case areturn =>
    split at h
    · split at h
      · rename_i hc; rw [if_pos hc]; cases h; rfl
      · cases h
    · split at h
      · rename_i hc; rw [if_pos hc]; cases h; rfl
      · cases h
    · cases h
  case new =>
    split at h
    · rename_i hc
      rw [if_pos hc]
      split at h
      · rename_i hc2
        rw [if_pos hc2]
        exact zcostW (fun o H' I' W' k hk => hX _ _ _ _ _ _ _ _ _ _ _ _ _ hk) h
      · cases h
    · rename_i hc
      rw [if_neg hc]
      split at h
      · rename_i hc2
        rw [if_pos hc2]
        cases h; rfl
      · cases h
  case newarray =>
    have ha : a = 0 := Nat.eq_of_beq_eq_true hz
    split at h
    · split at h
      · cases h
      · rename_i hc
        rw [if_neg hc]
        simp only [ha, if_true] at h ⊢
        exact zcostW (fun o H' I' W' k hk => hX _ _ _ _ _ _ _ _ _ _ _ _ _ hk) h
    · cases h
  case anewarray =>
    split at h
    · split at h
      · cases h
      · rename_i hc
        rw [if_neg hc]
        exact zcostW (fun o H' I' W' k hk => hX _ _ _ _ _ _ _ _ _ _ _ _ _ hk) h
    · cases h
  case invokevirtual => exact hcall _ _ h
  case invokespecial => exact hcall _ _ h
  case invokestatic => exact hcall _ _ h
end
theorem zx2W : ∀ (n d y pc : Nat) (L S : List Value) (H : zSh) (I : zI) (W : zW) (o : zO) (H' : zSh) (I' : zI) (W' : zW) (u : Nat), zx2 n d y pc L S (H, I, W) = some (o, (H', I', W'), u) → ∀ W2 : zW, zx zR zT n d y pc L S (H, I, W2) = some (o, (H', I', W2), u) := by
  intro n
  induction n with
  | zero => intro d y pc L S H I W o H' I' W' u h; unfold zx2 at h; cases h
  | succ n ih =>
    intro d y pc L S H I W o H' I' W' u h W2
    unfold zx2 at h
    rw [zx_succ]
    cases hf : zfet (zT y) pc with
    | none => simp only [hf] at h; cases h
    | some op =>
      simp only [hf] at h ⊢
      cases hz : zwo op S with
      | false => simp only [hz] at h; cases h
      | true =>
        simp only [hz] at h
        cases hs : zstep op pc L S (H, I, W) with
        | some c =>
          obtain ⟨pc1, L1, S1, ⟨H1, I1, W1⟩⟩ := c
          simp only [hs] at h
          rw [zstepW (W2 := W2) hz hs]
          exact ih _ _ _ _ _ _ _ _ _ _ _ _ _ h W2
        | none =>
          simp only [hs] at h
          rw [zstepN (W2 := W2) hz hs]
          exact zfinW (fun d y pc L S H I W o H' I' W' u hh => ih d y pc L S H I W o H' I' W' u hh W2) hz h
