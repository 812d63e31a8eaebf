/-! ===== what the machine's reads and writes say ===== -/
theorem zrs_cons {ad : Nat → Nat} {n : Nat} {a : Value} {S st : List Value} (h : zrs ad n (a :: S) st) : ∃ v st', st = v :: st' ∧ zrv ad n a v ∧ zrs ad n S st' := by
  cases st with
  | nil => exact h.elim
  | cons v st' => exact ⟨v, st', rfl, h.1, h.2⟩
theorem zild_some {L : List Value} {i : Nat} {v : Value} (h : zild L i = some v) : ∃ x : Int32, v = .int x ∧ L[i]? = some (.int x) := by
  unfold zild at h
  split at h
  · rename_i x hx
    exact ⟨x, (Option.some.inj h).symm, hx⟩
  · cases h
theorem zald_some {L : List Value} {i : Nat} {v : Value} (h : zald L i = some v) : (∃ x : Nat, v = .ref x ∧ L[i]? = some (.ref x)) ∨ (v = .null ∧ L[i]? = some .null) := by
  unfold zald at h
  split at h
  · rename_i x hx
    exact Or.inl ⟨x, (Option.some.inj h).symm, hx⟩
  · rename_i hx
    exact Or.inr ⟨(Option.some.inj h).symm, hx⟩
  · cases h
theorem zist_some {L L' : List Value} {i : Nat} {v : Value} (h : zist L i v = some L') : ∃ x : Int32, v = .int x ∧ i < L.length ∧ L' = L.set i (.int x) := by
  unfold zist at h
  split at h
  · rename_i x
    split at h
    · rename_i hi
      exact ⟨x, rfl, hi, (Option.some.inj h).symm⟩
    · cases h
  · cases h
theorem zast_some {L L' : List Value} {i : Nat} {v : Value} (h : zast L i v = some L') : i < L.length ∧ L' = L.set i v ∧ ((∃ x : Nat, v = .ref x) ∨ v = .null ∨ v = .float 1) := by
  unfold zast at h
  split at h
  · rename_i x
    split at h
    · rename_i hi
      exact ⟨hi, (Option.some.inj h).symm, Or.inl ⟨x, rfl⟩⟩
    · cases h
  · split at h
    · rename_i hi
      exact ⟨hi, (Option.some.inj h).symm, Or.inr (Or.inl rfl)⟩
    · cases h
  · rename_i b
    split at h
    · rename_i hb
      split at h
      · rename_i hi
        subst hb
        exact ⟨hi, (Option.some.inj h).symm, Or.inr (Or.inr rfl)⟩
      · cases h
    · cases h
  · cases h
theorem zget_spec {M : zM} {ci k r : Nat} {v : Value} (h : zget M ci k r = some v) : (ci < 50 ∧ ∃ t c, M.1[r]? = some t ∧ t.1 = 100 + ci ∧ t.2.2[k]? = some c ∧ v = zval c (M.2.1 r k)) ∨
    (¬ ci < 50 ∧ 2000000 ≤ r ∧ r < 2000000 + zStrN ∧ ((ci = 50 ∧ v = .ref (r + 1000000)) ∨ (ci ≠ 50 ∧ v = .int 0))) := by
  unfold zget at h
  split at h
  · rename_i hc
    refine Or.inl ⟨hc, ?_⟩
    split at h
    · rename_i t ht
      split at h
      · rename_i h1
        split at h
        · rename_i c hcc
          exact ⟨t, c, ht, h1, hcc, (Option.some.inj h).symm⟩
        · cases h
      · cases h
    · cases h
  · rename_i hc
    refine Or.inr ⟨hc, ?_⟩
    split at h
    · rename_i hr
      refine ⟨hr.1, hr.2, ?_⟩
      split at h
      · rename_i h5
        exact Or.inl ⟨h5, (Option.some.inj h).symm⟩
      · rename_i h5
        exact Or.inr ⟨h5, (Option.some.inj h).symm⟩
    · cases h
theorem zput_spec {M M' : zM} {ci k fl r : Nat} {v : Value} (h : zput M ci k fl r v = some M') : ∃ t c, M.1[r]? = some t ∧ t.1 = 100 + ci ∧ t.2.2[k]? = some c ∧
    ((∃ x : Int32, v = .int x ∧ c = 0 ∧ (fl % 10 = 0 ∨ (fl % 10 = 2 ∧ (x = 0 ∨ x = 1))) ∧ M' = (M.1, zset M.2.1 r k x, M.2.2)) ∨
     (∃ a : Nat, v = .ref a ∧ a < M.1.length ∧ fl % 10 = 3 ∧ M' = (M.1.set r (t.1, t.2.1, t.2.2.set k (a + 2)), M.2))) := by
  unfold zput at h
  split at h
  · rename_i t ht
    split at h
    · rename_i h1
      split at h
      · rename_i c hcc
        refine ⟨t, c, ht, h1, hcc, ?_⟩
        split at h
        · rename_i x
          split at h
          · rename_i hq
            exact Or.inl ⟨x, rfl, hq.1, hq.2, (Option.some.inj h).symm⟩
          · cases h
        · rename_i a
          split at h
          · rename_i hq
            exact Or.inr ⟨a, rfl, hq.2.1, hq.2.2, (Option.some.inj h).symm⟩
          · cases h
        · cases h
      · cases h
    · cases h
  · cases h
theorem zvin_in {i : Int32} {n : Nat} (h : zvin i n = true) : vp_in i n := by
  unfold zvin at h
  unfold vp_in
  intro q
  rcases q with q | q
  · simp [q] at h
  · simp [q] at h
theorem zval_rv {ad : Nat → Nat} {n c : Nat} {x : Int32} (h : c < n + 2) : zrv ad n (zval c x) (zcv ad (zval c x)) := by
  match c, h with
  | 0, _ => exact rfl
  | 1, _ => exact rfl
  | k + 2, h =>
    have h2 : k < n := by omega
    show (k < n ∨ 1000000 ≤ k) ∧ Value.ref (ad k) = Value.ref (ad k)
    exact ⟨Or.inl h2, rfl⟩
theorem zE_obj {ad : Nat → Nat} {cA : ClassId} {f : Nat → Int32} {g : Nat → Int64} {t : Nat × Nat × List Nat} {ci : Nat} (h : t.1 = 100 + ci) : zE ad cA f g t = .inr (ci, t.2.2.mapIdx (fun j c => zcv ad (zval c (f j)))) := by
  unfold zE
  rw [if_neg (by omega), if_neg (by omega), if_neg (by omega), h]
  congr 2
  omega
theorem zE_int {ad : Nat → Nat} {cA : ClassId} {f : Nat → Int32} {g : Nat → Int64} {t : Nat × Nat × List Nat} (h : t.1 = 0) : zE ad cA f g t = .inl (cA, t.2.1, .inl f) := by
  unfold zE
  rw [if_pos h]
theorem zE_long {ad : Nat → Nat} {cA : ClassId} {f : Nat → Int32} {g : Nat → Int64} {t : Nat × Nat × List Nat} (h : t.1 = 1) : zE ad cA f g t = .inl (cA, t.2.1, .inr (.inl g)) := by
  unfold zE
  rw [if_neg (by omega), if_pos h]
theorem zE_ref {ad : Nat → Nat} {cA : ClassId} {f : Nat → Int32} {g : Nat → Int64} {t : Nat × Nat × List Nat} (h : 10 ≤ t.1) (h2 : t.1 < 100) : zE ad cA f g t = .inl (cA, t.2.1, .inr (.inr (.inr (.inr (fun j => zrq ad t.2.2[j]?))))) := by
  unfold zE
  rw [if_neg (by omega), if_neg (by omega), if_pos h2]
theorem zWo_upd {D : va_G} {sz0 : Nat} {sc : Nat × (Nat → Int32)} {sp ad : Nat → Nat} {κ : Nat → ClassId} {tys : List (ClassId × FieldType)} {M M' : zM} {s : State} {H H1 : Heap} (h : zWo D sz0 sc sp ad κ tys M s H)
    (hP : va_P D vwCl (zWs ad κ M') H1) (hD : va_D (zA sz0) (zWs ad κ M')) (hn : M'.1.length = M.1.length)
    (hc : ∀ (k : Nat) (t' : Nat × Nat × List Nat), M'.1[k]? = some t' → ∃ t, M.1[k]? = some t ∧ t'.1 = t.1 ∧ ∀ c ∈ t'.2.2, c < M.1.length + 2) (he : M'.2.2.2 = M.2.2.2) : zWo D sz0 sc sp ad κ tys M' s H1 := by
  obtain ⟨h1, -, -, h4, h5, h6, h7⟩ := h
  refine ⟨h1, hP, hD, fun k t' hk => ?_, h5, by rw [hn]; exact h6, he.trans h7⟩
  obtain ⟨t, ht, e1, e2⟩ := hc k t' hk
  rw [e1, hn]
  exact ⟨(h4 k t ht).1, e2⟩
/-- the shape is as it was -/
theorem zWo_updS {D : va_G} {sz0 : Nat} {sc : Nat × (Nat → Int32)} {sp ad : Nat → Nat} {κ : Nat → ClassId} {tys : List (ClassId × FieldType)} {M M' : zM} {s : State} {H H1 : Heap} (h : zWo D sz0 sc sp ad κ tys M s H)
    (hP : va_P D vwCl (zWs ad κ M') H1) (hD : va_D (zA sz0) (zWs ad κ M')) (hn : M'.1 = M.1) (he : M'.2.2.2 = M.2.2.2) : zWo D sz0 sc sp ad κ tys M' s H1 :=
  zWo_upd h hP hD (by rw [hn]) (fun k t hk => ⟨t, by rw [← hn]; exact hk, rfl, (h.2.2.2.1 k t (by rw [← hn]; exact hk)).2⟩) he
theorem zstrlen (i : Nat) : (zStrB.map List.length).getD i 0 = (zStrB.getD i []).length := by
  simp only [List.getD_eq_getElem?_getD, List.getElem?_map]
  cases zStrB[i]? <;> rfl
theorem zcopy_spec {M M' : zM} {r0 r1 : Nat} {sp dp n : Int32} (h : zcopy M r0 sp r1 dp n = some M') : ∃ t u, M.1[r0]? = some t ∧ M.1[r1]? = some u ∧ t.1 = 0 ∧ u.1 = 0 ∧ ¬ sp < 0 ∧ ¬ dp < 0 ∧ ¬ n < 0 ∧ sp.toNatClampNeg + n.toNatClampNeg ≤ t.2.1 ∧ dp.toNatClampNeg + n.toNatClampNeg ≤ u.2.1 ∧
    M' = (M.1, zcpy M.2.1 r0 r1 sp.toNatClampNeg dp.toNatClampNeg n.toNatClampNeg, M.2.2) := by
  unfold zcopy at h
  split at h
  · rename_i t u ht hu
    split at h
    · rename_i hq
      obtain ⟨q1, q2, q3, q4, q5, q6, q7⟩ := hq
      exact ⟨t, u, ht, hu, q1, q2, q3, q4, q5, q6, q7, (Option.some.inj h).symm⟩
    · cases h
  · cases h
theorem ziald_spec {M : zM} {r : Nat} {i : Int32} {v : Value} (h : ziald M r i = some v) : (r = 1000000 ∧ vp_in i M.2.2.2.1 ∧ v = .int (M.2.2.2.2 i.toNatClampNeg)) ∨ (∃ t, M.1[r]? = some t ∧ t.1 = 0 ∧ vp_in i t.2.1 ∧ v = .int (M.2.1 r i.toNatClampNeg)) := by
  unfold ziald at h
  split at h
  · rename_i hr
    split at h
    · rename_i hv
      exact Or.inl ⟨hr, zvin_in hv, (Option.some.inj h).symm⟩
    · cases h
  · split at h
    · rename_i t ht
      split at h
      · rename_i h0
        split at h
        · rename_i hv
          exact Or.inr ⟨t, ht, h0, zvin_in hv, (Option.some.inj h).symm⟩
        · cases h
      · cases h
    · cases h
theorem ziast_spec {M M' : zM} {r : Nat} {i x : Int32} (h : ziast M r i x = some M') : ∃ t, M.1[r]? = some t ∧ t.1 = 0 ∧ vp_in i t.2.1 ∧ M' = (M.1, zset M.2.1 r i.toNatClampNeg x, M.2.2) := by
  unfold ziast at h
  split at h
  · rename_i t ht
    split at h
    · rename_i h0
      split at h
      · rename_i hv
        exact ⟨t, ht, h0, zvin_in hv, (Option.some.inj h).symm⟩
      · cases h
    · cases h
  · cases h
theorem zlald_spec {M : zM} {r : Nat} {i : Int32} {v : Value} (h : zlald M r i = some v) : ∃ t, M.1[r]? = some t ∧ t.1 = 1 ∧ vp_in i t.2.1 ∧ v = .long (M.2.2.1 r i.toNatClampNeg) := by
  unfold zlald at h
  split at h
  · rename_i t ht
    split at h
    · rename_i h0
      split at h
      · rename_i hv
        exact ⟨t, ht, h0, zvin_in hv, (Option.some.inj h).symm⟩
      · cases h
    · cases h
  · cases h
theorem zlast_spec {M M' : zM} {r : Nat} {i : Int32} {x : Int64} (h : zlast M r i x = some M') : ∃ t, M.1[r]? = some t ∧ t.1 = 1 ∧ vp_in i t.2.1 ∧ M' = (M.1, M.2.1, zset M.2.2.1 r i.toNatClampNeg x, M.2.2.2) := by
  unfold zlast at h
  split at h
  · rename_i t ht
    split at h
    · rename_i h0
      split at h
      · rename_i hv
        exact ⟨t, ht, h0, zvin_in hv, (Option.some.inj h).symm⟩
      · cases h
    · cases h
  · cases h
theorem zbald_spec {r : Nat} {i : Int32} {v : Value} (h : zbald r i = some v) : 3000000 ≤ r ∧ r < 3000000 + zStrN ∧ vp_in i (zStrB.getD (r - 3000000) []).length ∧ v = .int ((zStrB.getD (r - 3000000) []).getD i.toNatClampNeg 0) := by
  unfold zbald at h
  split at h
  · rename_i hr
    split at h
    · rename_i hv
      exact ⟨hr.1, hr.2, zvin_in hv, (Option.some.inj h).symm⟩
    · cases h
  · cases h
theorem zaald_spec {M : zM} {r : Nat} {i : Int32} {v : Value} (h : zaald M r i = some v) : ∃ t n, M.1[r]? = some t ∧ 10 ≤ t.1 ∧ t.1 < 100 ∧ vp_in i t.2.1 ∧ t.2.2[i.toNatClampNeg]? = some (n + 1) ∧ v = zval (n + 1) 0 := by
  unfold zaald at h
  split at h
  · rename_i t ht
    split at h
    · rename_i h0
      split at h
      · rename_i hv
        split at h
        · rename_i n hn
          exact ⟨t, n, ht, h0.1, h0.2, zvin_in hv, hn, (Option.some.inj h).symm⟩
        · cases h
      · cases h
    · cases h
  · cases h
theorem zaast_spec {M M' : zM} {r v : Nat} {i : Int32} (h : zaast M r i v = some M') : ∃ t u, M.1[r]? = some t ∧ 10 ≤ t.1 ∧ t.1 < 100 ∧ vp_in i t.2.1 ∧ M.1[v]? = some u ∧ u.1 = t.1 + 90 ∧ i.toNatClampNeg < t.2.2.length ∧ M' = (M.1.set r (t.1, t.2.1, t.2.2.set i.toNatClampNeg (v + 2)), M.2) := by
  unfold zaast at h
  split at h
  · rename_i t ht
    split at h
    · rename_i h0
      split at h
      · rename_i hv
        split at h
        · rename_i u hu
          split at h
          · rename_i hq
            exact ⟨t, u, ht, h0.1, h0.2, zvin_in hv, hu, hq.1, hq.2, (Option.some.inj h).symm⟩
          · cases h
        · cases h
      · cases h
    · cases h
  · cases h
theorem zalen_spec {M : zM} {r : Nat} {v : Value} (h : zalen M r = some v) : (r = 1000000 ∧ v = .int (Int32.ofNat M.2.2.2.1)) ∨ (3000000 ≤ r ∧ r < 3000000 + zStrN ∧ v = .int (Int32.ofNat (zStrB.getD (r - 3000000) []).length)) ∨ (∃ t, M.1[r]? = some t ∧ (t.1 < 2 ∨ (10 ≤ t.1 ∧ t.1 < 100)) ∧ v = .int (Int32.ofNat t.2.1)) := by
  unfold zalen at h
  split at h
  · rename_i hr
    exact Or.inl ⟨hr, (Option.some.inj h).symm⟩
  · split at h
    · rename_i hr
      exact Or.inr (Or.inl ⟨hr.1, hr.2, (Option.some.inj h).symm⟩)
    · split at h
      · rename_i t ht
        split at h
        · rename_i h0
          exact Or.inr (Or.inr ⟨t, ht, h0, (Option.some.inj h).symm⟩)
        · cases h
      · cases h
