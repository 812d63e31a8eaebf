/-! ===== SOUNDNESS ===== -/
theorem zcost_some {u : Nat} {x : Option (zO × zM × Nat)} {o : zO} {M' : zM} {k : Nat} (h : zcost u x = some (o, M', k)) : ∃ k', x = some (o, M', k') ∧ k = u + k' := by
  unfold zcost at h
  split at h
  · rename_i o1 M1 k1
    cases h
    exact ⟨k1, rfl, rfl⟩
  · cases h
theorem znew_word : ∀ (ci : Nat) (q : vw_C), vwCl[ci]? = some q → Cond.instantiable q.1 q.2.2 ∈ zWd ∧ Cond.initialized q.1 ∈ zWd := by
  have key : ∀ q ∈ vwCl, (Cond.instantiable q.1 q.2.2 ∈ lw_tbl ∧ goodWord (Cond.instantiable q.1 q.2.2) = true) ∧ Cond.initialized q.1 ∈ lw_tbl ∧ goodWord (Cond.initialized q.1) = true := by
    intro q hq
    simp only [vwCl, List.mem_cons, List.not_mem_nil, or_false] at hq
    rcases hq with rfl | rfl | rfl | rfl | rfl | rfl | rfl | rfl | rfl | rfl | rfl <;> decide +kernel
  intro ci q hq
  obtain ⟨h1, h2⟩ := key q (List.mem_of_getElem? hq)
  exact ⟨List.mem_filter.mpr h1, List.mem_filter.mpr h2⟩
theorem zfs_ok (ad : Nat → Nat) : ∀ (ci : Nat) (q : vw_C), vwCl[ci]? = some q → (zfs ci).length = q.2.2 ∧ (∀ j, j < q.2.2 → defaultValue (zty ci j) = vp_V ((zfs ci).mapIdx (fun j c => zcv ad (zval c 0))) j) ∧ ∀ c ∈ zfs ci, c < 2 := by
  have key : ∀ ci, ci < 11 → ((zfs ci).all (fun c => decide (c < 2))) = true ∧ ((zfs ci).zipIdx.all (fun x => decide (defaultValue (zty ci x.2) = if x.1 = 0 then .int 0 else .null))) = true := by decide +kernel
  have h2 : ∀ ci, ci < 11 → ∀ j, j < (zfs ci).length → defaultValue (zty ci j) = vp_V ((zfs ci).mapIdx (fun j c => zcv ad (zval c 0))) j := by
    intro ci hci j hj
    obtain ⟨k1, k2⟩ := key ci hci
    have h3 : (zfs ci).zipIdx[j]? = some ((zfs ci)[j], j) := by rw [List.getElem?_zipIdx]; simp [hj]
    have h4 := List.all_eq_true.mp k2 _ (List.mem_of_getElem? h3)
    simp only [decide_eq_true_eq] at h4
    rw [h4]
    unfold vp_V
    rw [List.getD_eq_getElem?_getD, List.getElem?_mapIdx]
    have h5 := List.all_eq_true.mp k1 _ (List.getElem_mem hj)
    simp only [decide_eq_true_eq] at h5
    rw [List.getElem?_eq_getElem hj]
    have h6 : (zfs ci)[j] = 0 ∨ (zfs ci)[j] = 1 := by omega
    rcases h6 with h6 | h6 <;> rw [h6] <;> rfl
  intro ci q hq
  have hci : ci < 11 := zlt hq
  have hlen : (zfs ci).length = q.2.2 := by
    match ci, hq with
    | 0, hq => cases hq; rfl
    | 1, hq => cases hq; rfl
    | 2, hq => cases hq; rfl
    | 3, hq => cases hq; rfl
    | 4, hq => cases hq; rfl
    | 5, hq => cases hq; rfl
    | 6, hq => cases hq; rfl
    | 7, hq => cases hq; rfl
    | 8, hq => cases hq; rfl
    | 9, hq => cases hq; rfl
    | 10, hq => cases hq; rfl
    | k + 11, hq => simp at hq
  exact ⟨hlen, fun j hj => h2 ci hci j (by omega), fun c hc => by have := List.all_eq_true.mp (key ci hci).1 c hc; simpa using this⟩
/-- a cell more -/
theorem zWo_push {D : va_G} {sz0 : Nat} {sc : Nat × (Nat → Int32)} {sp ad : Nat → Nat} {κ : Nat → ClassId} {tys tys1 : List (ClassId × FieldType)} {M M1 : zM} {s : State} {H H1 : Heap} {t : Nat × Nat × List Nat} {q : Nat} {x : va_E} (cA : ClassId) (h : zWo D sz0 sc sp ad κ tys M s H)
    (hlt : M.1.length < 1000000) (h1 : M1.1 = M.1 ++ [t]) (hi : ∀ i, i < M.1.length → M1.2.1 i = M.2.1 i) (hj : ∀ i, i < M.1.length → M1.2.2.1 i = M.2.2.1 i) (he : M1.2.2.2 = M.2.2.2)
    (hK : va_K D vwCl tys1 s) (htys : ∀ (i : Nat) (z : ClassId × FieldType), tys[i]? = some z → tys1[i]? = some z)
    (hx : ∀ ad' : Nat → Nat, zE ad' cA (M1.2.1 M.1.length) (M1.2.2.1 M.1.length) t = x) (hP : va_P D vwCl (zWs ad κ M ++ [(q, x)]) H1) (hD : va_D (zA sz0) (zWs ad κ M ++ [(q, x)]))
    (hT : zTy (fun k => if k = M.1.length then cA else κ k) tys1 M.1.length t.1) (hc : ∀ c ∈ t.2.2, c < 2) :
    zWo D sz0 sc sp (fun k => if k = M.1.length then q else ad k) (fun k => if k = M.1.length then cA else κ k) tys1 M1 s H1 ∧ zExt ad M.1.length (fun k => if k = M.1.length then q else ad k) M1.1.length := by
  obtain ⟨-, -, -, h4, h5, h6, h7⟩ := h
  have hlen : M1.1.length = M.1.length + 1 := by rw [h1, List.length_append]; rfl
  have hrv : ∀ (k : Nat) (t9 : Nat × Nat × List Nat), M.1[k]? = some t9 → ∀ (c : Nat) (y : Int32), c ∈ t9.2.2 → zcv (fun k => if k = M.1.length then q else ad k) (zval c y) = zcv ad (zval c y) := by
    intro k t9 hk c y hc9
    have h9 := (h4 k t9 hk).2 c hc9
    match c, h9 with
    | 0, _ => rfl
    | 1, _ => rfl
    | c + 2, h9 =>
      have hne : ¬ c = M.1.length := by omega
      simp only [zval, zcv, if_neg hne]
  have hrq : ∀ (k : Nat) (t9 : Nat × Nat × List Nat), M.1[k]? = some t9 → ∀ j : Nat, zrq (fun k => if k = M.1.length then q else ad k) t9.2.2[j]? = zrq ad t9.2.2[j]? := by
    intro k t9 hk j
    cases hj9 : t9.2.2[j]? with
    | none => rfl
    | some c =>
      have h9 := (h4 k t9 hk).2 c (List.mem_of_getElem? hj9)
      match c, h9 with
      | 0, _ => rfl
      | 1, _ => rfl
      | c + 2, h9 =>
        have hne : ¬ c = M.1.length := by omega
        simp only [zrq, if_neg hne]
  have hws : zWs ad κ M ++ [(q, x)] = zWs (fun k => if k = M.1.length then q else ad k) (fun k => if k = M.1.length then cA else κ k) M1 := by
    apply List.ext_getElem?
    intro i
    simp only [zWs, List.getElem?_mapIdx, h1]
    by_cases hil : i < M.1.length
    · rw [List.getElem?_append_left (by rw [List.length_mapIdx]; exact hil), List.getElem?_append_left hil, List.getElem?_mapIdx]
      have hne : ¬ i = M.1.length := by omega
      cases ht : M.1[i]? with
      | none => rfl
      | some t9 =>
        simp only [Option.map_some, if_neg hne, hi i hil, hj i hil]
        congr 2
        unfold zE
        have e1 := hrq i t9 ht
        split
        · rfl
        · split
          · rfl
          · split
            · refine congrArg (fun z => (Sum.inl (κ i, t9.2.1, Sum.inr (Sum.inr (Sum.inr (Sum.inr z)))) : va_E)) ?_
              funext j
              exact (e1 j).symm
            · congr 2
              apply List.ext_getElem?
              intro j
              rw [List.getElem?_mapIdx, List.getElem?_mapIdx]
              cases hj9 : t9.2.2[j]? with
              | none => rfl
              | some c =>
                simp only [Option.map_some]
                rw [hrv i t9 ht c _ (List.mem_of_getElem? hj9)]
    · rw [List.getElem?_append_right (by rw [List.length_mapIdx]; omega), List.getElem?_append_right (by omega), List.length_mapIdx]
      by_cases hil2 : i = M.1.length
      · subst hil2
        simp only [Nat.sub_self, List.getElem?_cons_zero, Option.map_some, if_true]
        rw [hx]
      · have h9 : i - M.1.length = (i - M.1.length - 1) + 1 := by omega
        rw [h9]
        simp
  rw [hws] at hP hD
  refine ⟨⟨hK, hP, hD, fun k t9 hk => ?_, fun k hk => ?_, by omega, he.trans h7⟩, by omega, fun k hk => ?_⟩
  · rw [h1] at hk
    by_cases hkl : k < M.1.length
    · rw [List.getElem?_append_left hkl] at hk
      obtain ⟨⟨g1, g2, g3⟩, g4⟩ := h4 k t9 hk
      have hne : ¬ k = M.1.length := by omega
      refine ⟨⟨fun z => ?_, fun z => ?_, fun z1 z2 => ?_⟩, fun c hc9 => ?_⟩
      · obtain ⟨i, hi9⟩ := g1 z
        exact ⟨i, by simp only [if_neg hne]; exact htys _ _ hi9⟩
      · obtain ⟨i, hi9⟩ := g2 z
        exact ⟨i, by simp only [if_neg hne]; exact htys _ _ hi9⟩
      · obtain ⟨i, qq, hq9, hi9⟩ := g3 z1 z2
        exact ⟨i, qq, hq9, by simp only [if_neg hne]; exact htys _ _ hi9⟩
      · have := g4 c hc9
        omega
    · rw [List.getElem?_append_right (by omega)] at hk
      have h0 : k - M.1.length = 0 := by
        rcases Nat.eq_zero_or_pos (k - M.1.length) with z | z
        · exact z
        · have h9 : k - M.1.length = (k - M.1.length - 1) + 1 := by omega
          rw [h9] at hk
          simp at hk
      rw [h0] at hk
      simp only [List.getElem?_cons_zero, Option.some.injEq] at hk
      subst hk
      have hk2 : k = M.1.length := by omega
      subst hk2
      exact ⟨hT, fun c hc9 => by have := hc c hc9; omega⟩
  · have hne : ¬ k = M.1.length := by omega
    show (if k = M.1.length then q else ad k) = sp k
    rw [if_neg hne]
    exact h5 k hk
  · have hne : ¬ k = M.1.length := by omega
    show (if k = M.1.length then q else ad k) = ad k
    rw [if_neg hne]
