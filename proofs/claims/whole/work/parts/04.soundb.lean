/-! ===== what is checked of an instruction: it decodes so, and its words are in the tables ===== -/
def zlen (op : zOp) : Nat := match op.1 with
  | .bipush _ => 2 | .ldc _ => 2 | .iload _ => 2 | .aload _ => 2 | .istore _ => 2 | .astore _ => 2 | .newarray _ => 2
  | .sipush _ => 3 | .ldc_w _ => 3 | .iinc _ _ => 3 | .goto _ => 3 | .ifCond _ _ => 3 | .if_icmp _ _ => 3 | .ifnull _ => 3 | .ifnonnull _ => 3 | .getfield _ => 3 | .putfield _ => 3 | .getstatic _ => 3
  | .invokevirtual _ => 3 | .invokespecial _ => 3 | .invokestatic _ => 3 | .new _ => 3 | .anewarray _ => 3
  | .tableswitch .. => op.2.1
  | _ => 1
def zty : Nat → Nat → FieldType
  | 0 => tyX0 | 1 => tyX1 | 2 => tyX2 | 3 => tyX3 | 4 => tyX4 | 5 => tyX5 | 6 => tyX6 | 7 => tyX7 | 8 => tyX8 | 9 => tyX9 | _ => tyX10
def zRef (t : FieldType) : Bool := match t with | .object _ => true | .array _ => true | _ => false
def zokF (own : String) (idx ci k c w : Nat) : Bool := match vwCl[ci]? with
  | some q => decide (k < q.2.2) && (if c < 10 then zIn w (.fieldLink own idx (q.2.1 k).1 (q.2.1 k).2.1 (q.2.1 k).2.2.1) else zInB w (.fieldLinkNest own idx (q.2.1 k).1 (q.2.1 k).2.1 (q.2.1 k).2.2.1 "ColdStores"))
  | none => false
def zokP (own name : String) (ci k c : Nat) : Bool := match vwCl[ci]? with
  | some q => (decide ((q.2.1 k).2.2.2 = false) || (decide (name = "<init>") && decide ((q.2.1 k).1 = own) && decide (c < 10))) && (if c % 10 = 0 then decide (zty ci k = .int) else if c % 10 = 2 then decide (zty ci k = .boolean) else zRef (zty ci k))
  | none => false
def zokS (r : zRec) (pc : Nat) (op : zOp) : Bool := match op.1 with
  | .bipush v => decide ((Int8.ofInt v).toInt32 = Int32.ofInt v)
  | .sipush v => decide ((Int16.ofInt v).toInt32 = Int32.ofInt v)
  | .ldc k => if op.2.2.1 = 0 then zIn op.2.2.2.2.2 (.constant (zRn r).cls k (Int32.ofNat op.2.2.2.1)) else zStrs.any (fun q => decide (q.1 = (zRn r).cls) && decide (q.2.1 = k) && decide (q.2.2.2 = op.2.2.2.1))
  | .ldc_w k => zIn op.2.2.2.2.2 (.constant (zRn r).cls k (Int32.ofNat op.2.2.2.1))
  | .goto off => decide ((pc : Int) + off = (op.2.2.1 : Int))
  | .ifCond _ off => decide ((pc : Int) + off = (op.2.2.1 : Int))
  | .if_icmp _ off => decide ((pc : Int) + off = (op.2.2.1 : Int))
  | .ifnull off => decide ((pc : Int) + off = (op.2.2.1 : Int))
  | .ifnonnull off => decide ((pc : Int) + off = (op.2.2.1 : Int))
  | .getfield k => if op.2.2.1 < 50 then zokF (zRn r).cls k op.2.2.1 op.2.2.2.1 op.2.2.2.2.1 op.2.2.2.2.2 else if op.2.2.1 = 50 then zIn op.2.2.2.2.2 (.fieldLink (zRn r).cls k "java/lang/String" "value" "[B") else zIn op.2.2.2.2.2 (.fieldLink (zRn r).cls k "java/lang/String" "coder" "B")
  | .putfield k => zokF (zRn r).cls k op.2.2.1 op.2.2.2.1 op.2.2.2.2.1 op.2.2.2.2.2 && zokP (zRn r).cls (zRn r).name op.2.2.1 op.2.2.2.1 op.2.2.2.2.1
  | .getstatic k => if op.2.2.1 = 0 then zIn op.2.2.2.2.2 (.fieldLink (zRn r).cls k "java/lang/String" "COMPACT_STRINGS" "Z") else zIn op.2.2.2.2.2 (.fieldLink (zRn r).cls k "jdk/internal/util/Preconditions" "SIOOBE_FORMATTER" "Ljava/util/function/BiFunction;")
  | .invokespecial k => if op.2.2.1 = 9998 then zIn op.2.2.2.2.2 (.methodLink (zRn r).cls k Lib.objectInit) else true
  | .invokestatic k => if op.2.2.1 = 9999 then zIn op.2.2.2.2.2 (.methodLink (zRn r).cls k arraycopyName) else if op.2.2.1 = 9990 then zIn op.2.2.2.2.2 (.methodLink (zRn r).cls k Lib.Math.max.name) else if op.2.2.1 = 9991 then zIn op.2.2.2.2.2 (.methodLink (zRn r).cls k Lib.Math.min.name) else if op.2.2.1 = 9992 then zIn op.2.2.2.2.2 (.methodLink (zRn r).cls k Lib.Math.abs.name) else true
  | _ => true
def zokD (r : zRec) (pc : Nat) (op : zOp) : Bool := decide (decode (zRb r) pc = .ok (op.1, zlen op))
/-! ===== values, stacks, locals ===== -/
def zrv (ad : Nat → Nat) (n : Nat) : Value → Value → Prop
  | .int x, v => v = .int x
  | .long x, v => v = .long x
  | .null, v => v = .null
  | .ref k, v => (k < n ∨ 1000000 ≤ k) ∧ v = .ref (ad k)
  | .float b, v => if b = 1 then ∃ q : Nat, v = .ref q else if b = 2 then v = .null ∨ ∃ q : Nat, v = .ref q else False
  | _, _ => False
def zrs (ad : Nat → Nat) (n : Nat) : List Value → List Value → Prop
  | [], [] => True
  | a :: S, v :: st => zrv ad n a v ∧ zrs ad n S st
  | _, _ => False
theorem zrv_cat {ad : Nat → Nat} {n : Nat} {a v : Value} (h : zrv ad n a v) : v.category = a.category := by
  cases a <;> simp only [zrv] at h
  · subst h; rfl
  · subst h; rfl
  · split at h
    · obtain ⟨q, rfl⟩ := h; rfl
    · split at h
      · rcases h with rfl | ⟨q, rfl⟩ <;> rfl
      · exact h.elim
  · subst h; rfl
  · obtain ⟨-, rfl⟩ := h; rfl
theorem zrs_sum {ad : Nat → Nat} {n : Nat} : ∀ {S st : List Value}, zrs ad n S st → (st.map fun v => v.category).sum = (S.map fun v => v.category).sum
  | [], [], _ => rfl
  | a :: S, v :: st, h => by simp only [List.map_cons, List.sum_cons]; rw [zrv_cat h.1, zrs_sum h.2]
  | [], _ :: _, h => h.elim
  | _ :: _, [], h => h.elim
def zLo (ad : Nat → Nat) (n nL : Nat) (L : List Value) (ls : Array Slot) : Prop :=
  L.length = nL ∧ ∃ lv : List (Nat × Value), lv_has ls nL lv ∧ ∀ (i : Nat) (a : Value), L[i]? = some a → a = .float 0 ∨ ∃ v, (i, v) ∈ lv ∧ zrv ad n a v ∧ v.category = 1
theorem zLo_get {ad : Nat → Nat} {n nL i : Nat} {L : List Value} {ls : Array Slot} {a : Value} (h : zLo ad n nL L ls) (hi : L[i]? = some a) (h0 : a ≠ .float 0) : ∃ v, ls[i]? = some (.val v) ∧ zrv ad n a v := by
  obtain ⟨-, lv, hl, hv⟩ := h
  rcases hv i a hi with h | ⟨v, h1, h2, -⟩
  · exact absurd h h0
  · exact ⟨v, hl.2.2 _ h1, h2⟩
theorem zLo_up {ad : Nat → Nat} {n nL i : Nat} {L : List Value} {ls1 : Array Slot} {lv : List (Nat × Value)} {a v : Value} (hn : L.length = nL)
    (hv : ∀ (i : Nat) (a : Value), L[i]? = some a → a = .float 0 ∨ ∃ v, (i, v) ∈ lv ∧ zrv ad n a v ∧ v.category = 1)
    (h1 : lv_has ls1 nL ((i, v) :: lv.filter (fun q => !(q.1 == i) && !(q.1 + 1 == i && q.2.category == 2)))) (hr : zrv ad n a v) (hc : v.category = 1) : zLo ad n nL (L.set i a) ls1 := by
  refine ⟨by rw [List.length_set]; exact hn, _, h1, fun j b hj => ?_⟩
  rw [List.getElem?_set] at hj
  by_cases e : i = j
  · subst e
    rw [if_pos rfl] at hj
    split at hj
    · cases hj
      exact Or.inr ⟨v, List.mem_cons_self, hr, hc⟩
    · cases hj
  · rw [if_neg e] at hj
    rcases hv j b hj with h | ⟨w, h2, h3, h4⟩
    · exact Or.inl h
    · refine Or.inr ⟨w, List.mem_cons_of_mem _ (List.mem_filter.mpr ⟨h2, ?_⟩), h3, h4⟩
      have e1 : (j == i) = false := by simp; exact fun q => e q.symm
      have e2 : (w.category == 2) = false := by rw [h4]; rfl
      show (!(j == i) && !(j + 1 == i && w.category == 2)) = true
      rw [e1, e2]
      simp
/-! ===== what a body stands on ===== -/
def zCx (b sz0 : Nat) (sc : Nat × (Nat → Int32)) (adK adV : Nat → Nat) (r : zRec) (p : Program) (l : Launch) (s : State) (m : MethodId) (args : Array Value) (meth : Method) (c : Code) : Prop :=
  p.tables.exec = Jvm.exec ∧ c.code = zRb r ∧ c.maxLocals = zRl r ∧ s.vm.findClass (zRn r).cls = some m.cls ∧ (∀ w ∈ zWd, w.before args s = true) ∧ l.stackTraces = false ∧ meth.locks = false ∧ ((zRn r).name = "<init>" → meth.name = (zRn r).name) ∧ zStat b sz0 sc adK adV s
/-- the classes' tables, as the rows of the kit ask for them -/
theorem zcl_ok : ∀ (ci : Nat) (q : vw_C), vwCl[ci]? = some q → (∀ w ∈ u_ws q.1 q.2.1 q.2.2, w ∈ zWd) ∧ (∀ k, k < q.2.2 → parseFieldDescriptor (q.2.1 k).2.2.1 = some (zty ci k)) ∧ (∀ a, a < q.2.2 → ∀ b, b < q.2.2 → a ≠ b → (q.2.1 a).2.1 ≠ (q.2.1 b).2.1) := by
  have key : ∀ C T N, (u_ws C T N).all (fun w => decide (w ∈ lw_tbl) && goodWord w) = true → ∀ w ∈ u_ws C T N, w ∈ zWd := by
    intro C T N h w hw
    have h1 := List.all_eq_true.mp h w hw
    simp only [Bool.and_eq_true, decide_eq_true_eq] at h1
    exact List.mem_filter.mpr h1
  intro ci q hq
  match ci, hq with
  | 0, hq => cases hq; exact ⟨key _ _ _ (by decide +kernel), tyX0_ok, nmX0⟩
  | 1, hq => cases hq; exact ⟨key _ _ _ (by decide +kernel), tyX1_ok, nmX1⟩
  | 2, hq => cases hq; exact ⟨key _ _ _ (by decide +kernel), tyX2_ok, nmX2⟩
  | 3, hq => cases hq; exact ⟨key _ _ _ (by decide +kernel), tyX3_ok, nmX3⟩
  | 4, hq => cases hq; exact ⟨key _ _ _ (by decide +kernel), tyX4_ok, nmX4⟩
  | 5, hq => cases hq; exact ⟨key _ _ _ (by decide +kernel), tyX5_ok, nmX5⟩
  | 6, hq => cases hq; exact ⟨key _ _ _ (by decide +kernel), tyX6_ok, nmX6⟩
  | 7, hq => cases hq; exact ⟨key _ _ _ (by decide +kernel), tyX7_ok, nmX7⟩
  | 8, hq => cases hq; exact ⟨key _ _ _ (by decide +kernel), tyX8_ok, nmX8⟩
  | 9, hq => cases hq; exact ⟨key _ _ _ (by decide +kernel), tyX9_ok, nmX9⟩
  | 10, hq => cases hq; exact ⟨key _ _ _ (by decide +kernel), tyX10_ok, nmX10⟩
  | k + 11, hq => simp at hq
