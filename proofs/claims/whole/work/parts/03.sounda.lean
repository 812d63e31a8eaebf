/-! ===== the words, and what stays ===== -/
def zTb (w : Nat) : Option Cond := (match w / 1000 with
  | 0 => k2_sels lw_privs | 1 => tables_1_1 | 2 => tables_1_2 | 3 => tables_1_3 | 4 => tables_1_4 | 5 => tables_1_5 | 6 => tables_1_6 | 7 => tables_1_7 | 8 => tables_1_8 | 9 => tables_1_9 | 10 => tables_1_10 | _ => [])[w % 1000]?
theorem zTb_mem {w : Nat} {c : Cond} (h : zTb w = some c) : c ∈ lw_tbl := by
  unfold zTb at h
  have h1 := List.mem_of_getElem? h
  unfold lw_tbl tables_1
  split at h1 <;> simp only [List.mem_append] <;> simp_all
def zWd : List Cond := lw_tbl.filter goodWord
def zIs (w : Cond) : Bool := match w with
  | .methodLinkNest .. => true
  | .fieldLinkNest .. => true
  | .castable .. => true
  | .declares .. => true
  | _ => false
def zBd : List Cond := lw_tbl.filter zIs
def zIn (w : Nat) (c : Cond) : Bool := decide (zTb w = some c) && goodWord c
def zInB (w : Nat) (c : Cond) : Bool := decide (zTb w = some c) && zIs c
theorem zIn_mem {w : Nat} {c : Cond} (h : zIn w c = true) : c ∈ zWd := by
  simp only [zIn, Bool.and_eq_true, decide_eq_true_eq] at h
  exact List.mem_filter.mpr ⟨zTb_mem h.1, h.2⟩
theorem zInB_mem {w : Nat} {c : Cond} (h : zInB w c = true) : c ∈ zBd := by
  simp only [zInB, Bool.and_eq_true, decide_eq_true_eq] at h
  exact List.mem_filter.mpr ⟨zTb_mem h.1, h.2⟩
theorem zWd_good {w : Cond} (h : w ∈ zWd) : goodWord w = true := (List.mem_filter.mp h).2
theorem zWd_tbl {w : Cond} (h : w ∈ zWd) : w ∈ lw_tbl := (List.mem_filter.mp h).1
theorem zNw_warm {w : Cond} {s U : State} (hi : zIs w = true) (hW : s.WarmedH U.vm) (h : va_Nw w s) : va_Nw w U := by
  cases w <;> simp only [zIs] at hi <;> try exact absurd hi (by decide)
  · first | exact va_Nw.warmF hW h | exact va_Nw.warmM hW h | exact va_Nw.warmC hW h | exact va_tabs rfl (rfl : (s.setVm U.vm).vm = U.vm) (by rw [Cond.declares_setVm hW.alike]; exact h)
  · first | exact va_Nw.warmF hW h | exact va_Nw.warmM hW h | exact va_Nw.warmC hW h | exact va_tabs rfl (rfl : (s.setVm U.vm).vm = U.vm) (by rw [Cond.declares_setVm hW.alike]; exact h)
  · first | exact va_Nw.warmF hW h | exact va_Nw.warmM hW h | exact va_Nw.warmC hW h | exact va_tabs rfl (rfl : (s.setVm U.vm).vm = U.vm) (by rw [Cond.declares_setVm hW.alike]; exact h)
  · first | exact va_Nw.warmF hW h | exact va_Nw.warmM hW h | exact va_Nw.warmC hW h | exact va_tabs rfl (rfl : (s.setVm U.vm).vm = U.vm) (by rw [Cond.declares_setVm hW.alike]; exact h)
def zA (sz0 : Nat) : Nat → Prop := fun q => sz0 ≤ q
/-- the String constants: class, place, text, number -/
def zStrs : List (String × Nat × String × Nat) := [("ColdStores$Parser", 44, "chamber", 0), ("ColdStores$Parser", 56, "door", 1), ("ColdStores$Parser", 61, "goods", 2), ("ColdStores$Parser", 69, "pallet", 3), ("ColdStores$Parser", 77, "order", 4), ("ColdStores$Parser", 85, "limits", 5), ("ColdStores$Parser", 94, "quay", 6), ("ColdStores$TextWriter", 68, "chamber", 0), ("ColdStores$TextWriter", 102, "door", 1), ("ColdStores$TextWriter", 111, "goods", 2), ("ColdStores$TextWriter", 134, "pallet", 3), ("ColdStores$TextWriter", 148, "order", 4), ("ColdStores$TextWriter", 47, "limits", 5), ("ColdStores$TextWriter", 60, "quay", 6), ("ColdStores", 83, "the buffer would be too long", 7), ("ColdStores", 93, "not a length up to the present one", 8), ("ColdStores", 100, "the text is not valid", 9), ("ColdStores", 411, "no such goods", 10), ("ColdStores", 121, "too many pallets", 11), ("ColdStores", 413, "no such pallet", 12), ("ColdStores", 415, "no such chamber", 13), ("ColdStores", 422, "no such row or column", 14), ("ColdStores", 143, "the pallet cannot be stored there", 15), ("ColdStores", 159, "the pallet is not stored or the quay is full", 16), ("ColdStores", 167, "there is no way to the pallet", 17), ("ColdStores", 179, "the pallet is not stored", 18), ("ColdStores", 191, "the cell is not free or not safe", 19), ("ColdStores", 196, "the cell cannot be reached", 20), ("ColdStores", 205, "the pallet is not waiting or is spoiled", 21), ("ColdStores", 213, "the pallet is not waiting", 22), ("ColdStores", 417, "no such order", 23), ("ColdStores", 239, "the order was served or is late", 24), ("ColdStores", 250, "there are not enough pallets", 25), ("ColdStores", 252, "the temperature is out of range", 26), ("ColdStores", 257, "not that many days", 27), ("ColdStores", 277, "no such waiting pallet", 28), ("ColdStores", 280, "no such property", 29), ("ColdStores", 310, "no such zone", 30), ("ColdStores", 333, "the pallet was shipped or discarded", 31), ("ColdStores", 337, "the pallet is not spoiled that soon", 32), ("ColdStores", 340, "not that many nights", 33), ("ColdStores", 345, "not that many openings", 34), ("ColdStores", 356, "the cell is not free", 35), ("ColdStores", 358, "there is no free way to the cell", 36), ("ColdStores", 372, "the chamber has no door", 37), ("ColdStores", 374, "both goods are the same", 38), ("ColdStores", 393, "no such byte", 39), ("ColdStores", 401, "there is nothing to undo", 40), ("ColdStores", 406, "there is no copy", 41), ("ColdStoresModel", 119, "chamber", 0), ("ColdStoresModel", 125, "door", 1), ("ColdStoresModel", 127, "goods", 2), ("ColdStoresModel", 129, "pallet", 3), ("ColdStoresModel", 131, "order", 4), ("ColdStoresModel", 133, "limits", 5), ("ColdStoresModel", 135, "quay", 6)]
def zEx : List String := ["java/lang/IndexOutOfBoundsException", "java/lang/IllegalArgumentException", "java/lang/IllegalStateException", "java/util/NoSuchElementException"]
def zExn (E : Nat) : String := zEx.getD E ""
def zNcs : List (String × String) := zEx.flatMap fun a => (zEx.filter (fun b => !(decide (a = b)))).map fun b => (a, b)
def zAOs : List String := ["ColdStores$Goods", "ColdStores$Chamber", "ColdStores$Stock"]
/-- what holds from the law's entry on: words that warming keeps, the Strings, statics, the script -/
def zStat (b sz0 : Nat) (sc : Nat × (Nat → Int32)) (adK adV : Nat → Nat) (U : State) : Prop :=
  (∀ w ∈ zBd, va_Nw w U) ∧ (∀ q ∈ zStrs, vk_R q.1 q.2.1 q.2.2.1 (adK q.2.2.2) U) ∧ vk_S zStrN (zStrB.map List.length) zStrB adK adV (zA sz0) U U.heap ∧
  va_Z "java/lang/String" "COMPACT_STRINGS" "Z" (.int 1) (zA sz0) U U.heap ∧ va_Zq "jdk/internal/util/Preconditions" "SIOOBE_FORMATTER" "Ljava/util/function/BiFunction;" (zA sz0) U U.heap ∧
  vx_Zq Bundle.tN "UNASSIGNED_STACK" Bundle.steD (zA sz0) U U.heap ∧ vx_Zq Bundle.tN "SUPPRESSED_SENTINEL" Bundle.listD (zA sz0) U U.heap ∧
  (∀ q ∈ zNcs, va_Nc q.1 q.2 U) ∧ (∀ C ∈ zAOs, va_AO C U) ∧ va_X b sc.1 sc.2 U U.heap ∧ b < sz0 ∧ sz0 ≤ U.heap.size
theorem zStat_warm {b sz0 : Nat} {sc : Nat × (Nat → Int32)} {adK adV : Nat → Nat} {s U : State} (hW : s.WarmedH U.vm) (hsz : s.heap.size ≤ U.heap.size) (hk : ∀ a : Nat, a < s.heap.size → ¬ zA sz0 a → U.heap[a]? = s.heap[a]?)
    (h : zStat b sz0 sc adK adV s) : zStat b sz0 sc adK adV U := by
  obtain ⟨h1, h2, h3, h4, h5, h6, h7, h8, h9, h10, h11, h12⟩ := h
  have hal := hW.alike
  exact ⟨fun w hw => zNw_warm (List.mem_filter.mp hw).2 hW (h1 w hw), fun q hq => (h2 q hq).warm hW, (h3.moved hal).kept hk, (h4.moved hal).kept hk, (h5.moved hal).kept hk, (h6.moved hal).kept hk, (h7.moved hal).kept hk,
    fun q hq => (h8 q hq).moved hal, fun C hC => (h9 C hC).moved hal, (h10.moved hal).kept (hk b (Nat.lt_of_lt_of_le h11 h12) (Nat.not_le.mpr h11)), h11, Nat.le_trans h12 hsz⟩
/-! ===== the memory as a world of the kit ===== -/
def zcv (ad : Nat → Nat) : Value → Value
  | .ref n => .ref (ad n)
  | v => v
def zrq (ad : Nat → Nat) : Option Nat → Option Nat
  | some (n + 2) => some (ad n)
  | _ => none
def zE (ad : Nat → Nat) (cA : ClassId) (f : Nat → Int32) (g : Nat → Int64) (t : Nat × Nat × List Nat) : va_E :=
  if t.1 = 0 then .inl (cA, t.2.1, .inl f)
  else if t.1 = 1 then .inl (cA, t.2.1, .inr (.inl g))
  else if t.1 < 100 then .inl (cA, t.2.1, .inr (.inr (.inr (.inr (fun j => zrq ad t.2.2[j]?)))))
  else .inr (t.1 - 100, t.2.2.mapIdx (fun j c => zcv ad (zval c (f j))))
def zWs (ad : Nat → Nat) (κ : Nat → ClassId) (M : zM) : va_W := M.1.mapIdx (fun k t => (ad k, zE ad (κ k) (M.2.1 k) (M.2.2.1 k) t))
def zTy (κ : Nat → ClassId) (tys : List (ClassId × FieldType)) (k kind : Nat) : Prop :=
  (kind = 0 → ∃ i : Nat, tys[i]? = some (κ k, .int)) ∧ (kind = 1 → ∃ i : Nat, tys[i]? = some (κ k, .long)) ∧ (10 ≤ kind → kind < 100 → ∃ (i : Nat) (q : vw_C), vwCl[kind - 10]? = some q ∧ tys[i]? = some (κ k, .object q.1))
def zsp (b : Nat) (adK adV : Nat → Nat) (k : Nat) : Nat := if k < 2000000 then b else if k < 3000000 then adK (k - 2000000) else adV (k - 3000000)
def zWo (D : va_G) (sz0 : Nat) (sc : Nat × (Nat → Int32)) (sp ad : Nat → Nat) (κ : Nat → ClassId) (tys : List (ClassId × FieldType)) (M : zM) (s : State) (H : Heap) : Prop :=
  va_K D vwCl tys s ∧ va_P D vwCl (zWs ad κ M) H ∧ va_D (zA sz0) (zWs ad κ M) ∧ (∀ (k : Nat) (t : Nat × Nat × List Nat), M.1[k]? = some t → zTy κ tys k t.1 ∧ ∀ c ∈ t.2.2, c < M.1.length + 2) ∧
  (∀ k, 1000000 ≤ k → ad k = sp k) ∧ M.1.length ≤ 1000000 ∧ M.2.2.2 = sc
theorem zWs_get {ad : Nat → Nat} {κ : Nat → ClassId} {M : zM} {r : Nat} {t : Nat × Nat × List Nat} (h : M.1[r]? = some t) : (zWs ad κ M)[r]? = some (ad r, zE ad (κ r) (M.2.1 r) (M.2.2.1 r) t) := by
  simp [zWs, List.getElem?_mapIdx, h]
theorem zset_same {α : Type} (I : Nat → Nat → α) (k j : Nat) (x : α) : zset I k j x k = fun b => if b = j then x else I k b := by
  funext b; simp [zset]
theorem zset_ne {α : Type} (I : Nat → Nat → α) {k i : Nat} (j : Nat) (x : α) (h : i ≠ k) : zset I k j x i = I i := by
  funext b; simp [zset, h]
theorem zclr_same {α : Type} (I : Nat → Nat → α) (k : Nat) (x : α) : zclr I k x k = fun _ => x := by
  funext b; simp [zclr]
theorem zclr_ne {α : Type} (I : Nat → Nat → α) {k i : Nat} (x : α) (h : i ≠ k) : zclr I k x i = I i := by
  funext b; simp [zclr, h]
theorem zcpy_ne (I : Nat → Nat → Int32) {k0 k1 sp dp n i : Nat} (h : i ≠ k1) : zcpy I k0 k1 sp dp n i = I i := by
  funext b; simp [zcpy, h]
theorem zcpy_same (I : Nat → Nat → Int32) (k0 k1 sp dp n : Nat) : zcpy I k0 k1 sp dp n k1 = va_cpy (I k0) (I k1) sp dp n := by
  funext b; simp [zcpy, va_cpy]
theorem zlt {α : Type} {l : List α} {r : Nat} {t : α} (h : l[r]? = some t) : r < l.length := (List.getElem?_eq_some_iff.mp h).1
/-- one cell's contents change -/
theorem zWs_set {ad : Nat → Nat} {κ : Nat → ClassId} {M M' : zM} {r : Nat} {t t' : Nat × Nat × List Nat} {x : va_E} (h : M.1[r]? = some t) (h1 : M'.1 = M.1.set r t')
    (hi : ∀ i, i ≠ r → M'.2.1 i = M.2.1 i) (hj : ∀ i, i ≠ r → M'.2.2.1 i = M.2.2.1 i) (hx : zE ad (κ r) (M'.2.1 r) (M'.2.2.1 r) t' = x) : (zWs ad κ M).set r (ad r, x) = zWs ad κ M' := by
  apply List.ext_getElem?
  intro i
  have hl := zlt h
  rw [List.getElem?_set]
  simp only [zWs, List.getElem?_mapIdx, h1, List.getElem?_set, List.length_mapIdx]
  by_cases hr : r = i
  · subst hr
    simp [hl, hx]
  · have hr' : i ≠ r := fun q => hr q.symm
    simp [hr, hi i hr', hj i hr']
theorem zset_self {α : Type} {l : List α} {r : Nat} {t : α} (h : l[r]? = some t) : l = l.set r t := by
  apply List.ext_getElem?
  intro i
  rw [List.getElem?_set]
  by_cases hr : r = i
  · subst hr
    rw [if_pos rfl, if_pos (zlt h), h]
  · simp [hr]
