/-! ===== the constructors, run ===== -/
def w00 : zW := (fun _ _ => 0, 0, fun _ => 0)
def c98 : Option (zO × zM × Nat) := zx2 4000 20 98 0 [.ref 0] [] ([(109, 12, zfs 9)], zclr (fun _ _ => 0) 0 0, w00)
def c174 (I : zI) : Option (zO × zM × Nat) := zx2 9000 20 174 0 [.ref 353] [] (Hc.take 353 ++ [(110, 24, zfs 10)], zclr I 353 0, w00)
def ctI (I : zI) : Bool := [(0, 1, 0), (0, 9, 0), (49, 1, 0), (49, 2, 0), (49, 11, 0), (5, 0, 0), (5, 3, 0), (5, 6, 0), (5, 12, 100), (5, 13, 10), (5, 14, 12), (18, 0, 0), (19, 0, 1), (20, 0, 2), (21, 0, 3), (22, 0, 4), (23, 0, 5), (130, 1, 0), (130, 2, 0), (353, 2, 0), (353, 15, 0), (353, 17, 0), (355, 1, 100), (355, 2, 10), (355, 3, 12)].all (fun q : Nat × Nat × Nat => decide (I q.1 q.2.1 = Int32.ofNat q.2.2)) && ((List.range 472).all (fun j => Nat.ble 1 j && Nat.ble j 3 || decide (I 355 j = if j < 400 then 0 else -1)))
def kct : Bool := match c98 with
  | some (.inl none, (H, I, _), u) => decide (H = Hc.take 353) && (decide (u = 7820) && (match c174 I with
    | some (.inl none, (H2, I2, _), u2) => decide (H2 = Hc.take 363) && (decide (u2 = 10647) && ctI I2)
    | _ => false))
  | _ => false
set_option maxRecDepth 100000 in
theorem kct_t : kct = true := by decide +kernel
theorem ctor_ok : ∃ I1 I2 : zI, (∀ W : zW, zx zR zT 4000 20 98 0 [.ref 0] [] ([(109, 12, zfs 9)], zclr (fun _ _ => 0) 0 0, W) = some (.inl none, (Hc.take 353, I1, W), 7820)) ∧ (∀ W : zW, zx zR zT 9000 20 174 0 [.ref 353] [] (Hc.take 353 ++ [(110, 24, zfs 10)], zclr I1 353 0, W) = some (.inl none, (Hc.take 363, I2, W), 10647)) ∧ ctI I2 = true := by
  have h := kct_t
  unfold kct at h
  cases h1 : c98 with
  | none => rw [h1] at h; cases h
  | some q =>
    obtain ⟨o, ⟨H, I, W'⟩, u⟩ := q
    rw [h1] at h
    cases o with
    | inr E => cases h
    | inl v =>
      cases v with
      | some v => cases h
      | none =>
        simp only [Bool.and_eq_true, decide_eq_true_eq] at h
        obtain ⟨e1, e2, h⟩ := h
        cases h2 : c174 I with
        | none => rw [h2] at h; cases h
        | some q =>
          obtain ⟨o, ⟨H2, I2, W2⟩, u2⟩ := q
          rw [h2] at h
          cases o with
          | inr E => cases h
          | inl v =>
            cases v with
            | some v => cases h
            | none =>
              simp only [Bool.and_eq_true, decide_eq_true_eq] at h
              obtain ⟨e3, e4, h⟩ := h
              subst e1
              subst e2
              subst e3
              subst e4
              exact ⟨I, I2, fun W => zx2W _ _ _ _ _ _ _ _ _ _ _ _ _ _ h1 W, fun W => zx2W _ _ _ _ _ _ _ _ _ _ _ _ _ _ h2 W, h⟩
