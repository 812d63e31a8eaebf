/-! ===== soundness: what is said of n steps ===== -/
def zRet (r : zRec) (pc : Nat) (ad : Nat → Nat) (n : Nat) (o : zO) (st : List Value) : Prop := match o with
  | .inl none => decode (zRb r) pc = .ok (.return_, 1) ∧ zRr r = none ∧ st = []
  | .inl (some (.int x)) => decode (zRb r) pc = .ok (.ireturn, 1) ∧ zrok (zRr r) x = true ∧ st = [.int x]
  | .inl (some (.ref a)) => decode (zRb r) pc = .ok (.areturn, 1) ∧ zrokA (zRr r) = true ∧ (a < n ∨ 1000000 ≤ a) ∧ st = [.ref (ad a)]
  | .inl (some .null) => decode (zRb r) pc = .ok (.areturn, 1) ∧ zrokA (zRr r) = true ∧ st = [.null]
  | _ => False
def zSnd (Rr : Nat → zRec) (T : Nat → List (List (Option zOp))) (N n : Nat) : Prop :=
  ∀ (d y pc : Nat) (L S : List Value) (M : zM) (o : zO) (M' : zM) (u : Nat), zx Rr T n d y pc L S M = some (o, M', u) → (y < N ∨ zRe (Rr y) = []) →
  ∀ (p : Program) (l : Launch) (e : Env) (R : Room) (s : State) (m : MethodId) (args : Array Value) (below : List Frame) (meth : Method) (c : Code) (H : Heap) (locs : List Loc) (cells slots : Nat) (Q : State → Prop) (ls : Array Slot) (st : List Value)
    (D : va_G) (b sz0 : Nat) (sc : Nat × (Nat → Int32)) (adK adV ad : Nat → Nat) (κ : Nat → ClassId) (tys : List (ClassId × FieldType)) (Ct Dt : Nat),
    zCx b sz0 sc adK adV (Rr y) p l s m args meth c → c.exceptionTable.toList = tableOf (zRh (Rr y)) → zWo D sz0 sc (zsp b adK adV) ad κ tys M s H → va_S (zA sz0) s.heap H locs →
    zLo ad M.1.length (zRl (Rr y)) L ls → zrs ad M.1.length S st → d + 20 ≤ R.frames → 64 * d + 300 ≤ R.locals → Ct ≤ R.cells → Dt ≤ R.slots → cells + u ≤ Ct → slots + u ≤ Dt →
    (∀ (ad' : Nat → Nat) (κ' : Nat → ClassId) (tys' : List (ClassId × FieldType)) (H' : Heap) (locs' : List Loc) (pc' : Nat) (ls' : Array Slot) (st' : List Value), zExt ad M.1.length ad' M'.1.length → zWo D sz0 sc (zsp b adK adV) ad' κ' tys' M' s H' → va_S (zA sz0) s.heap H' locs' →
      zRet (Rr y) pc' ad' M'.1.length o st' → W p l e R s m args below meth c H' locs' Ct Dt Q (F0 m pc' ls' st')) →
    (∀ (k : Nat) (ad' : Nat → Nat) (κ' : Nat → ClassId) (tys' : List (ClassId × FieldType)) (H' : Heap) (locs' : List Loc) (pc' : Nat) (ls' : Array Slot) (st' : List Value) (cells' slots' k0 b0 is0 ic0 : Nat), o = .inr k → zExt ad M.1.length ad' M'.1.length → zWo D sz0 sc (zsp b adK adV) ad' κ' tys' M' s H' → va_S (zA sz0) s.heap H' locs' →
      decode (zRb (Rr y)) pc' = .ok (.new k0, 3) → zokT (Rr y) pc' k0 k b0 is0 ic0 = true → (st'.map fun v => v.category).sum ≤ 8 → ls'.size = c.maxLocals → cells' + 6 ≤ Ct → slots' + 6 ≤ Dt → W p l e R s m args below meth c H' locs' cells' slots' Q (F0 m pc' ls' st')) →
    (∀ (k : Nat) (ce : Cell) (q9 : Addr) (ad' : Nat → Nat) (κ' : Nat → ClassId) (tys' : List (ClassId × FieldType)) (H' : Heap) (locs' : List Loc) (pc' : Nat) (ls' : Array Slot) (st' : List Value), o = .inr k → k < 4 → zExt ad M.1.length ad' M'.1.length → zWo D sz0 sc (zsp b adK adV) ad' κ' tys' M' s H' → va_S (zA sz0) s.heap H' locs' →
      H'[q9]? = some ce → ce.vm = .none → s.vm.findClass (zExn k) = some ce.cls → zhnd (zRe (Rr y)) pc' k = none → vx_W p l e R s m args below meth c H' locs' Ct Dt Q (F0 m pc' ls' st') q9) →
    W p l e R s m args below meth c H locs cells slots Q (F0 m pc ls st)
def zTok (Rr : Nat → zRec) (T : Nat → List (List (Option zOp))) (N : Nat) : Prop :=
  (∀ y, y < N → zokR (Rr y) = true) ∧ ∀ (y pc : Nat) (op : zOp), zfet (T y) pc = some op → zokD (Rr y) pc op = true ∧ zokS (Rr y) pc op = true ∧ zokX Rr N (Rr y) pc op = true
set_option maxHeartbeats 2000000 in
theorem zstep_len {op : zOp} {pc : Nat} {L S : List Value} {M : zM} {c : zCf} (h : zstep op pc L S M = some c) : c.2.2.2.1.length = M.1.length := by
  obtain ⟨i, len, a, b1, c1, w⟩ := op
  cases i <;> simp only [zstep] at h <;> try (cases h; done)
  all_goals (try (cases h; rfl))
  all_goals (repeat' split at h)
  all_goals (try (cases h; done))
  all_goals (try (cases h; rfl))
  all_goals (try (rename_i cd off S1 x S0; cases cd <;> simp only [zifc] at h <;> split at h <;> cases h <;> rfl))
  all_goals (try (rename_i cd off S1 y x S0; cases cd <;> simp only [zifc] at h <;> split at h <;> cases h <;> rfl))
  all_goals (try (rename_i hv; cases h; obtain ⟨t, ht, -, -, rfl⟩ := ziast_spec hv; rfl))
  all_goals (try (rename_i hv; cases h; obtain ⟨t, ht, -, -, rfl⟩ := zlast_spec hv; rfl))
  all_goals (try (rename_i hv; cases h; obtain ⟨t, u, -, -, -, -, -, -, -, rfl⟩ := zaast_spec hv; exact List.length_set))
  all_goals (try (rename_i hv; cases h; obtain ⟨t, u, -, -, -, -, -, -, -, -, -, rfl⟩ := zcopy_spec hv; rfl))
  all_goals (try (rename_i hv; cases h; obtain ⟨t, cc, -, -, -, ⟨x, -, -, -, rfl⟩ | ⟨a, -, -, -, rfl⟩⟩ := zput_spec hv; (first | rfl | exact List.length_set); exact List.length_set))
theorem zIs_tab {w : Cond} (h : zIs w = true) : w.onTables = true := by
  cases w <;> simp only [zIs] at h <;> first | rfl | cases h
theorem zrok_spec {rt : Option FieldType} {x : Int32} (h : zrok rt x = true) : ∃ ty, rt = some ty ∧ narrow ty (.int x) = .int x := by
  unfold zrok at h
  split at h
  · exact ⟨.int, rfl, rfl⟩
  · simp only [decide_eq_true_eq] at h
    rcases h with rfl | rfl
    · exact ⟨.boolean, rfl, rfl⟩
    · exact ⟨.boolean, rfl, rfl⟩
  · simp only [decide_eq_true_eq] at h
    exact ⟨.byte, rfl, by simp only [narrow]; rw [h]⟩
  · simp only [decide_eq_true_eq] at h
    exact ⟨.char, rfl, by simp only [narrow]; rw [h]⟩
  · cases h
theorem zNcs_mem {k k' : Nat} (h : k < 4) (h' : k' < 4) (hne : ¬ k' = k) : (zExn k, zExn k') ∈ zNcs := by
  have key : ((List.range 4).all fun a => (List.range 4).all fun b => decide (b = a) || decide ((zExn a, zExn b) ∈ zNcs)) = true := by decide +kernel
  have h1 := List.all_eq_true.mp (List.all_eq_true.mp key k (List.mem_range.mpr h)) k' (List.mem_range.mpr h')
  simp only [Bool.or_eq_true, decide_eq_true_eq] at h1
  exact h1.resolve_left hne
theorem zWo_kept {D : va_G} {sz0 : Nat} {sc : Nat × (Nat → Int32)} {sp ad : Nat → Nat} {κ : Nat → ClassId} {tys : List (ClassId × FieldType)} {M : zM} {s : State} {H H1 : Heap} (hq : ∀ q : Nat, q < H.size → H1[q]? = H[q]?) (h : zWo D sz0 sc sp ad κ tys M s H) : zWo D sz0 sc sp ad κ tys M s H1 :=
  ⟨h.1, h.2.1.kept (fun k q hk => hq _ (h.2.1 k q hk).lt), h.2.2⟩
theorem zhnd_none {hs : List (Nat × Nat × Nat × Nat)} {pc k : Nat} (h : zhnd hs pc k = none) : ∀ z ∈ hs, ¬ (z.1 ≤ pc ∧ pc < z.2.1 ∧ z.2.2.2 = k) := by
  induction hs with
  | nil => intro z hz; cases hz
  | cons a l ih =>
    unfold zhnd at h
    split at h
    · cases h
    · rename_i hn
      intro z hz
      rcases List.mem_cons.mp hz with rfl | hz
      · exact hn
      · exact ih h z hz
theorem zhnd_some {hs : List (Nat × Nat × Nat × Nat)} {pc k t : Nat} (h : zhnd hs pc k = some t) : ∃ pre x suf, hs = pre ++ x :: suf ∧ (∀ z ∈ pre, ¬ (z.1 ≤ pc ∧ pc < z.2.1 ∧ z.2.2.2 = k)) ∧ x.1 ≤ pc ∧ pc < x.2.1 ∧ x.2.2.2 = k ∧ x.2.2.1 = t := by
  induction hs with
  | nil => cases h
  | cons a l ih =>
    unfold zhnd at h
    split at h
    · rename_i hn
      exact ⟨[], a, l, rfl, (fun z hz => by cases hz), hn.1, hn.2.1, hn.2.2, Option.some.inj h⟩
    · rename_i hn
      obtain ⟨pre, x, suf, e, h1, h2⟩ := ih h
      refine ⟨a :: pre, x, suf, by rw [e]; rfl, fun z hz => ?_, h2⟩
      rcases List.mem_cons.mp hz with rfl | hz
      · exact hn
      · exact h1 z hz
theorem zCt_ok : ∀ k, k < 4 → zCt k ≠ 0 ∧ Cond.classLink "ColdStoresLaw" (zCt k) (zExn k) ∈ zWd ∧ Cond.castable (zExn k) (zExn k) ∈ zBd := by
  have key : ∀ k, k < 4 → zCt k ≠ 0 ∧ (Cond.classLink "ColdStoresLaw" (zCt k) (zExn k) ∈ lw_tbl ∧ goodWord (Cond.classLink "ColdStoresLaw" (zCt k) (zExn k)) = true) ∧ (Cond.castable (zExn k) (zExn k) ∈ lw_tbl ∧ zIs (Cond.castable (zExn k) (zExn k)) = true) := by decide +kernel
  intro k hk
  obtain ⟨h1, h2, h3⟩ := key k hk
  exact ⟨h1, List.mem_filter.mpr h2, List.mem_filter.mpr h3⟩
/-- entries of the table that do not catch -/
theorem zpass {b sz0 : Nat} {sc : Nat × (Nat → Int32)} {adK adV : Nat → Nat} {r : zRec} {s : State} {args : Array Value} {pc k : Nat} (hk : k < 4) (hcls : (zRn r).cls = "ColdStoresLaw") (hts : ∀ w ∈ zWd, w.before args s = true) (hst : zStat b sz0 sc adK adV s)
    (l : List (Nat × Nat × Nat × Nat)) (hl : ∀ z ∈ l, z.2.2.2 < 4) (hn : ∀ z ∈ l, ¬ (z.1 ≤ pc ∧ pc < z.2.1 ∧ z.2.2.2 = k)) :
    ∀ z ∈ tableOf (l.map fun z => (z.1, z.2.1, z.2.2.1, zCt z.2.2.2)), covers z pc = false ∨ (z.catchType ≠ 0 ∧ ∃ nm : String, (Cond.classLink (zRn r).cls z.catchType nm).before args s = true ∧ va_Nc (zExn k) nm s) := by
  intro z hz
  unfold tableOf at hz
  rw [List.map_map] at hz
  obtain ⟨q, hq, rfl⟩ := List.mem_map.mp hz
  have hn1 := hn q hq
  by_cases h1 : q.1 ≤ pc ∧ pc < q.2.1
  · have hne : ¬ q.2.2.2 = k := fun e => hn1 ⟨h1.1, h1.2, e⟩
    right
    obtain ⟨h2, h3, -⟩ := zCt_ok _ (hl q hq)
    refine ⟨h2, zExn q.2.2.2, ?_, hst.2.2.2.2.2.2.2.1 _ (zNcs_mem hk (hl q hq) hne)⟩
    rw [hcls]
    exact hts _ h3
  · left
    show covers ⟨q.1, q.2.1, q.2.2.1, zCt q.2.2.2⟩ pc = false
    rw [zcov]
    simp only [Bool.and_eq_false_iff, decide_eq_false_iff_not]
    omega
