/-! ===== records, calls, what makes and what throws: what is checked ===== -/
def zCt (E : Nat) : Nat := [28, 19, 13, 107].getD E 0
def zGd (y : MethodName) : Bool := plainName y.cls && decide (y.cls ≠ "java/lang/invoke/MethodHandle") && decide (y.cls ≠ "java/lang/invoke/VarHandle")
/-- a method's record -/
def zokR (r : zRec) : Bool := zGd (zRn r) && decide (zRl r ≤ 40) && zIn (zRw3 r) (.initialized (zRn r).cls) &&
  (if zRh r = [] then zIn (zRw0 r) (.code (zRn r) (zRb r) (zRl r) (zRr r)) else zIn (zRw0 r) (.codeWith (zRn r) (zRb r) (zRl r) (zRr r) (zRh r)) && decide ((zRn r).cls = "ColdStoresLaw") && decide (zRk r = 1)) &&
  decide (zRh r = (zRe r).map fun z => (z.1, z.2.1, z.2.2.1, zCt z.2.2.2)) && (zRe r).all (fun z => decide (z.2.2.2 < 4)) &&
  (if zRk r = 0 then zIn (zRw1 r) (.instanceMethod (zRn r)) && zIn (zRw2 r) (.selects (zRn r).cls (zRn r) (zRn r)) && (if zRc r < 50 then decide ((vwCl[zRc r]?).map (fun q => q.1) = some (zRn r).cls) else decide ((zRn r).cls = "java/lang/String"))
   else if zRk r = 1 then zIn (zRw1 r) (.static (zRn r))
   else decide (zRk r = 2) && zIn (zRw1 r) (.instanceMethod (zRn r)) && decide ((zRn r).name = "<init>") && decide (zRr r = none) && (decide (zRc r < 50) && decide ((vwCl[zRc r]?).map (fun q => q.1) = some (zRn r).cls)))
/-- a call's own words -/
def zokI (r r' : zRec) (k n c w : Nat) : Bool := decide ((parseMethodDescriptor (zRn r').desc).map (fun d => d.parameters.length) = some n) &&
  (if c < 10 then zIn w (.methodLink (zRn r).cls k (zRn r')) else zInB w (.methodLinkNest (zRn r).cls k (zRn r') "ColdStores") && decide (zRh r' = []) && decide (zRk r' ≠ 0))
/-- 'throw new E(text)' -/
def zokT (r : zRec) (pc k E b is ic : Nat) : Bool := decide (E < 4) && decide (zRh r = []) && decide (decode (zRb r) (pc + 3) = .ok (.dup, 1)) &&
  ((decide (E ≠ 3) && decide (decode (zRb r) (pc + 4) = .ok (.ldc is, 2)) && decide (decode (zRb r) (pc + 6) = .ok (.invokespecial ic, 3)) && decide (decode (zRb r) (pc + 9) = .ok (.athrow, 1))) ||
   (decide (decode (zRb r) (pc + 4) = .ok (.ldc_w is, 3)) && decide (decode (zRb r) (pc + 7) = .ok (.invokespecial ic, 3)) && decide (decode (zRb r) (pc + 10) = .ok (.athrow, 1)))) &&
  zStrs.any (fun q => decide (q.1 = (zRn r).cls) && decide (q.2.1 = is) && decide (q.2.2.2 = b)) &&
  (decide (Cond.classLink (zRn r).cls k (zExn E) ∈ lw_tbl) && goodWord (Cond.classLink (zRn r).cls k (zExn E))) && (decide (Cond.methodLink (zRn r).cls ic (Bundle.initS (zExn E)) ∈ lw_tbl) && goodWord (Cond.methodLink (zRn r).cls ic (Bundle.initS (zExn E))))
def zXn : List String := ["java/lang/RuntimeException", "java/lang/Exception"]
def zXA (X : String) : List Cond := Bundle.throwableAtoms ++ Bundle.throwableSAtoms ++ Bundle.chainSAtoms X zXn
def zXB (X : String) : List Cond := (Bundle.ownAtoms "" 0 X zXn).drop ((zXA X).length + 1)
theorem zXsplit (own : String) (ic : Nat) (X : String) : Bundle.ownAtoms own ic X zXn = zXA X ++ Cond.methodLink own ic (Bundle.initS X) :: zXB X := rfl
def zXw (E : Nat) : List Cond := if E = 3 then ((zXA zS3 ++ zXB zS3).filter (fun w => decide (w ∉ z3bad)) ++ [Cond.code (Bundle.initS zS3) zb13 2 none, Cond.methodLink zS3 13 (Bundle.initS zR3)]).filter vx_no else (zXA (zExn E) ++ zXB (zExn E)).filter vx_no
def zXok (E : Nat) : Bool := (Cond.initialized (zExn E) :: zXw E).all (fun w => decide (w ∈ lw_tbl) && vx_ot w && (goodWord w || zIs w))
theorem zXok_0 : zXok 0 = true := by decide +kernel
theorem zXok_1 : zXok 1 = true := by decide +kernel
theorem zXok_2 : zXok 2 = true := by decide +kernel
theorem zXok_3 : zXok 3 = true := by decide +kernel
theorem zXok_all : ∀ E, E < 4 → zXok E = true := fun E h => match E, h with
  | 0, _ => zXok_0 | 1, _ => zXok_1 | 2, _ => zXok_2 | 3, _ => zXok_3
theorem zown_mem {own : String} {E ic : Nat} {w : Cond} (hE : E ≠ 3) (h : w ∈ vx_atS own ic (zExn E) zXn) : w = .methodLink own ic (Bundle.initS (zExn E)) ∨ w ∈ zXw E := by
  unfold vx_atS at h
  obtain ⟨h1, h2⟩ := List.mem_filter.mp h
  rw [zXsplit] at h1
  unfold zXw
  rw [if_neg hE]
  rcases List.mem_append.mp h1 with h1 | h1
  · exact Or.inr (List.mem_filter.mpr ⟨List.mem_append_left _ h1, h2⟩)
  · rcases List.mem_cons.mp h1 with h1 | h1
    · exact Or.inl h1
    · exact Or.inr (List.mem_filter.mpr ⟨List.mem_append_right _ h1, h2⟩)
theorem zown_mem3 {own : String} {ic : Nat} {w : Cond} (h : w ∈ (z3at own ic).filter vx_no) : w = .methodLink own ic (Bundle.initS zS3) ∨ w ∈ zXw 3 := by
  obtain ⟨h1, h2⟩ := List.mem_filter.mp h
  unfold zXw
  rw [if_pos rfl]
  unfold z3at at h1
  rcases List.mem_append.mp h1 with h1 | h1
  · obtain ⟨h3, h4⟩ := List.mem_filter.mp h1
    have h5 : w ∈ zXA zS3 ++ Cond.methodLink own ic (Bundle.initS zS3) :: zXB zS3 := by
      rw [← zXsplit]
      exact h3
    rcases List.mem_append.mp h5 with h5 | h5
    · exact Or.inr (List.mem_filter.mpr ⟨List.mem_append_left _ (List.mem_filter.mpr ⟨List.mem_append_left _ h5, h4⟩), h2⟩)
    · rcases List.mem_cons.mp h5 with h5 | h5
      · exact Or.inl h5
      · exact Or.inr (List.mem_filter.mpr ⟨List.mem_append_left _ (List.mem_filter.mpr ⟨List.mem_append_right _ h5, h4⟩), h2⟩)
  · exact Or.inr (List.mem_filter.mpr ⟨List.mem_append_right _ h1, h2⟩)
def zokX (Rr : Nat → zRec) (N : Nat) (r : zRec) (pc : Nat) (op : zOp) : Bool := match op.1 with
  | .new k => if op.2.2.1 < 50 then (match vwCl[op.2.2.1]? with | some q => zIn op.2.2.2.2.2 (.classLink (zRn r).cls k q.1) | none => false) else zokT r pc k (op.2.2.1 - 50) op.2.2.2.1 op.2.2.2.2.1 op.2.2.2.2.2
  | .newarray t => if op.2.2.1 = 0 then decide (t = .int) else decide (t = .long)
  | .anewarray k => (match vwCl[op.2.2.1]? with | some q => zIn op.2.2.2.2.2 (.classLink (zRn r).cls k q.1) && decide (q.1 ∈ zAOs) | none => false)
  | .invokevirtual k => decide (op.2.2.1 < N) && decide (op.2.2.2.2.1 < 10) && decide (zRk (Rr op.2.2.1) = 0) && zokI r (Rr op.2.2.1) k op.2.2.2.1 op.2.2.2.2.1 op.2.2.2.2.2
  | .invokestatic k => decide (9000 ≤ op.2.2.1) || (decide (op.2.2.1 < N) && decide (zRk (Rr op.2.2.1) = 1) && zokI r (Rr op.2.2.1) k op.2.2.2.1 op.2.2.2.2.1 op.2.2.2.2.2)
  | .invokespecial k => decide (9000 ≤ op.2.2.1) || (decide (op.2.2.1 < N) && decide (zRk (Rr op.2.2.1) = 2) && zokI r (Rr op.2.2.1) k op.2.2.2.1 op.2.2.2.2.1 op.2.2.2.2.2)
  | _ => true
theorem zcov (a b c d pc : Nat) : covers ⟨a, b, c, d⟩ pc = (decide (a ≤ pc) && decide (pc < b)) := rfl
/-! ===== more cells ===== -/
def zExt (ad : Nat → Nat) (n : Nat) (ad' : Nat → Nat) (n' : Nat) : Prop := n ≤ n' ∧ ∀ k, (k < n ∨ 1000000 ≤ k) → ad' k = ad k
theorem zExt_rf (ad : Nat → Nat) (n : Nat) : zExt ad n ad n := ⟨Nat.le_refl n, fun _ _ => rfl⟩
theorem zExt_tr {ad ad1 ad2 : Nat → Nat} {n n1 n2 : Nat} (h : zExt ad n ad1 n1) (h1 : zExt ad1 n1 ad2 n2) : zExt ad n ad2 n2 :=
  ⟨Nat.le_trans h.1 h1.1, fun k hk => (h1.2 k (hk.imp (fun q => Nat.lt_of_lt_of_le q h.1) id)).trans (h.2 k hk)⟩
theorem zrv_ext {ad ad' : Nat → Nat} {n n' : Nat} (h : zExt ad n ad' n') {a v : Value} (hr : zrv ad n a v) : zrv ad' n' a v := by
  cases a <;> simp only [zrv] at hr ⊢ <;> try exact hr
  obtain ⟨h1, rfl⟩ := hr
  exact ⟨h1.imp (fun q => Nat.lt_of_lt_of_le q h.1) id, by rw [h.2 _ h1]⟩
theorem zrs_ext {ad ad' : Nat → Nat} {n n' : Nat} (h : zExt ad n ad' n') : ∀ {S st : List Value}, zrs ad n S st → zrs ad' n' S st
  | [], [], _ => trivial
  | _ :: _, _ :: _, hs => ⟨zrv_ext h hs.1, zrs_ext h hs.2⟩
  | [], _ :: _, h => h.elim
  | _ :: _, [], h => h.elim
theorem zLo_ext {ad ad' : Nat → Nat} {n n' nL : Nat} (h : zExt ad n ad' n') {L : List Value} {ls : Array Slot} (hL : zLo ad n nL L ls) : zLo ad' n' nL L ls := by
  obtain ⟨h1, lv, h2, h3⟩ := hL
  exact ⟨h1, lv, h2, fun i a hi => (h3 i a hi).imp id fun ⟨v, q1, q2, q3⟩ => ⟨v, q1, zrv_ext h q2, q3⟩⟩
theorem zWo_moved {D : va_G} {sz0 : Nat} {sc : Nat × (Nat → Int32)} {sp ad : Nat → Nat} {κ : Nat → ClassId} {tys : List (ClassId × FieldType)} {M : zM} {s U : State} {H : Heap} (hvm : s.vm.Alike U.vm) (h : zWo D sz0 sc sp ad κ tys M s H) : zWo D sz0 sc sp ad κ tys M U H :=
  ⟨h.1.moved hvm, h.2⟩
theorem zrs_len {ad : Nat → Nat} {n : Nat} : ∀ {S st : List Value}, zrs ad n S st → st.length = S.length
  | [], [], _ => rfl
  | _ :: _, _ :: _, hs => by simp only [List.length_cons]; rw [zrs_len hs.2]
  | [], _ :: _, h => h.elim
  | _ :: _, [], h => h.elim
theorem zrs_app {ad : Nat → Nat} {n : Nat} : ∀ {S st S2 st2 : List Value}, zrs ad n S st → zrs ad n S2 st2 → zrs ad n (S ++ S2) (st ++ st2)
  | [], [], _, _, _, h => h
  | _ :: _, _ :: _, _, _, hs, h => ⟨hs.1, zrs_app hs.2 h⟩
  | [], _ :: _, _, _, h, _ => h.elim
  | _ :: _, [], _, _, h, _ => h.elim
theorem zrs_take {ad : Nat → Nat} {n : Nat} : ∀ (k : Nat) {S st : List Value}, zrs ad n S st → zrs ad n (S.take k) (st.take k)
  | 0, _, _, _ => by simp [zrs]
  | _ + 1, [], [], _ => trivial
  | k + 1, _ :: _, _ :: _, hs => ⟨hs.1, zrs_take k hs.2⟩
  | _ + 1, [], _ :: _, h => h.elim
  | _ + 1, _ :: _, [], h => h.elim
theorem zrs_drop {ad : Nat → Nat} {n : Nat} : ∀ (k : Nat) {S st : List Value}, zrs ad n S st → zrs ad n (S.drop k) (st.drop k)
  | 0, _, _, h => h
  | _ + 1, [], [], _ => trivial
  | k + 1, _ :: _, _ :: _, hs => zrs_drop k hs.2
  | _ + 1, [], _ :: _, h => h.elim
  | _ + 1, _ :: _, [], h => h.elim
theorem zrs_rev {ad : Nat → Nat} {n : Nat} : ∀ {S st : List Value}, zrs ad n S st → zrs ad n S.reverse st.reverse
  | [], [], _ => trivial
  | _ :: _, _ :: _, hs => by
    rw [List.reverse_cons, List.reverse_cons]
    exact zrs_app (zrs_rev hs.2) ⟨hs.1, trivial⟩
  | [], _ :: _, h => h.elim
  | _ :: _, [], h => h.elim
theorem zrs_get {ad : Nat → Nat} {n : Nat} : ∀ {S st : List Value}, zrs ad n S st → ∀ (i : Nat) (a : Value), S[i]? = some a → ∃ v, st[i]? = some v ∧ zrv ad n a v
  | [], [], _, i, a, h => by simp at h
  | x :: S, y :: st, hs, i, a, h => by
    cases i with
    | zero => simp at h; subst h; exact ⟨y, by simp, hs.1⟩
    | succ i => simp at h; obtain ⟨v, h1, h2⟩ := zrs_get hs.2 i a h; exact ⟨v, by simpa using h1, h2⟩
  | [], _ :: _, h, _, _, _ => h.elim
  | _ :: _, [], h, _, _, _ => h.elim
/-! ===== contracts ===== -/
def zPc (D : va_G) (b sz0 : Nat) (sc : Nat × (Nat → Int32)) (adK adV : Nat → Nat) (ad : Nat → Nat) (κ : Nat → ClassId) (tys : List (ClassId × FieldType)) (M : zM) (as : List Value) : Array Value → State → Prop := fun v U =>
  ∃ cs : List Value, v = cs.toArray ∧ zrs ad M.1.length as cs ∧ zStat b sz0 sc adK adV U ∧ zWo D sz0 sc (zsp b adK adV) ad κ tys M U U.heap
def zrO (ad : Nat → Nat) (n : Nat) : zO → Option Value → Prop
  | .inl none, v => v = none
  | .inl (some a), v => ∃ w, v = some w ∧ zrv ad n a w
  | .inr _, _ => False
def zQc (D : va_G) (b sz0 : Nat) (sc : Nat × (Nat → Int32)) (adK adV : Nat → Nat) (ad : Nat → Nat) (n : Nat) (M' : zM) (o : zO) : Array Value → State → Outcome → State → Prop := fun _ st oc t =>
  (∃ (v : Option Value) (ad' : Nat → Nat) (κ' : Nat → ClassId) (tys' : List (ClassId × FieldType)), oc = .returned v ∧ zrO ad' M'.1.length o v ∧ zExt ad n ad' M'.1.length ∧ zWo D sz0 sc (zsp b adK adV) ad' κ' tys' M' t t.heap) ∧ va_F (zA sz0) st t
def zXC (D : va_G) (b sz0 : Nat) (sc : Nat × (Nat → Int32)) (adK adV : Nat → Nat) (ad : Nat → Nat) (n : Nat) (M' : zM) (o : zO) : String → State → State → Prop := fun E st t =>
  (∃ (k : Nat) (ad' : Nat → Nat) (κ' : Nat → ClassId) (tys' : List (ClassId × FieldType)), o = .inr k ∧ k < 4 ∧ E = zExn k ∧ zExt ad n ad' M'.1.length ∧ zWo D sz0 sc (zsp b adK adV) ad' κ' tys' M' t t.heap) ∧ va_F (zA sz0) st t
theorem zPc_blind {D : va_G} {b sz0 : Nat} {sc : Nat × (Nat → Int32)} {adK adV ad : Nat → Nat} {κ : Nat → ClassId} {tys : List (ClassId × FieldType)} {M : zM} {as : List Value} : FrameBlind (zPc D b sz0 sc adK adV ad κ tys M as) := by
  intro a U g mk h
  obtain ⟨cs, h1, h2, h3, h4⟩ := h
  exact ⟨cs, h1, h2, zStat_warm (s := U) (U := U.calling g mk a) (State.WarmedH.refl U) (Nat.le_refl _) (fun _ _ _ => rfl) h3, zWo_moved (s := U) (U := U.calling g mk a) (Vm.Alike.refl U.vm) h4⟩
theorem zcallW {p : Program} {l : Launch} {e : Env} {R : Room} {s : State} {m : MethodId} {args : Array Value} {below : List Frame} {meth : Method} {c : Code} {H : Heap} {locs : List Loc} {cells slots mc ms : Nat} {Q : State → Prop} {pc : Nat} {ls : Array Slot} {st0 rest : List Value} {a : Array Value}
    {D : va_G} {b sz0 : Nat} {sc : Nat × (Nat → Int32)} {adK adV ad : Nat → Nat} {n : Nat} {M' : zM} {o : zO}
    (hr : vx_Run p l e R s m args below meth c H locs cells slots mc ms (F0 m pc ls st0) rest (zQc D b sz0 sc adK adV ad n M' o a) (zXC D b sz0 sc adK adV ad n M' o) (zA sz0)) (hS : va_S (zA sz0) s.heap H locs)
    (kx : ∀ (ce : Cell) (q9 : Addr) (k : Nat) (ad' : Nat → Nat) (κ' : Nat → ClassId) (tys' : List (ClassId × FieldType)) (H1 : Heap) (locs1 : List Loc), o = .inr k → k < 4 → zExt ad n ad' M'.1.length → zWo D sz0 sc (zsp b adK adV) ad' κ' tys' M' s H1 → va_S (zA sz0) s.heap H1 locs1 → H1[q9]? = some ce → ce.vm = .none → s.vm.findClass (zExn k) = some ce.cls →
      vx_W p l e R s m args below meth c H1 locs1 (cells + mc) (slots + ms) Q (F0 m pc ls rest) q9)
    (kk : ∀ (v : Option Value) (ad' : Nat → Nat) (κ' : Nat → ClassId) (tys' : List (ClassId × FieldType)) (H1 : Heap) (locs1 : List Loc), zrO ad' M'.1.length o v → zExt ad n ad' M'.1.length → zWo D sz0 sc (zsp b adK adV) ad' κ' tys' M' s H1 → va_S (zA sz0) s.heap H1 locs1 →
      W p l e R s m args below meth c H1 locs1 (cells + mc) (slots + ms) Q (F0 m (pc + 3) ls (v.toList ++ rest))) : W p l e R s m args below meth c H locs cells slots Q (F0 m pc ls st0) := by
  intro T hT X
  rcases hr T hT X with ⟨v, st₀, t, T', L, h0, X', hL, e1, e2, ⟨⟨v', ad', κ', tys', hv, h1, h2, h3⟩, hF⟩, st⟩ | ⟨q, st₀, t, T', L, E, ce, h0, X', hL, e1, e2, ⟨⟨k, ad', κ', tys', ho, hk4, rfl, h2, h3⟩, hF⟩, hce, hcv, hcl, st⟩
  · cases hv
    obtain ⟨k1, k2, k3⟩ := vx_keep h0 e1 hS (fun _ _ h => h) (fun _ h => h) hL hF
    have hal : s.vm.Alike t.vm := by rw [← e2]; exact X'.warmed.alike
    obtain ⟨t2, a1, b1⟩ := kk v ad' κ' tys' T'.heap (locs ++ L) h1 h2 (by rw [e1]; exact zWo_moved hal.symm h3) k3 T' rfl X'
    exact ⟨t2, st t2 a1, b1⟩
  · obtain ⟨k1, k2, k3⟩ := vx_keep h0 e1 hS (fun _ _ h => h) (fun _ h => h) hL hF
    have hal : s.vm.Alike t.vm := by rw [← e2]; exact X'.warmed.alike
    obtain ⟨t2, a1, b1⟩ := kx ce q k ad' κ' tys' T'.heap (locs ++ L) ho hk4 h2 (by rw [e1]; exact zWo_moved hal.symm h3) k3 (by rw [e1]; exact hce) hcv hcl T' rfl X'
    exact ⟨t2, st.trans a1, b1⟩
