/-! THE CLAIM OUT OF ONE WALK OF THE LAW'S BODY. Your part is whole_start (and what it stands on); all else here is the same for every law, but numbers. -/
def R_law : String := "ColdStoresLaw"
def lw_P (b : Addr) (xs : List Int32) (args : Array Value) (s : State) : Prop := args = #[.ref b] ∧ s.IntsAt b xs ∧ xs.length ≤ 3072 ∧ (Jvm.Cond.and given_1 narrow_1).before args s = true
def lw_Q (_ : Array Value) (s : State) (o : Outcome) (t : State) : Prop := o = .returned (some (.int 1)) ∧ Framed s o t [] 601024 7293034
def lw_Z (below : List Frame) (a : Array Value) (s : State) : State → Prop := fun t => ∃ o, t.status = .running ∧ Ended t below o ∧ lw_Q a s o t
/-- the law's own end, with 1 on the stack, nothing written that was there before, its room as the claim has it -/
theorem lw_ret {p : Program} {l : Launch} {e : Env} {s : State} {m : MethodId} {below : List Frame} {meth : Method} {c : Code} {b : Nat} (hx : p.tables.exec = Jvm.exec) (hb : c.code = code) (hr : meth.sig.returnType = ret) (hlocks : meth.locks = false) {pc : Nat} {H : Heap} {ls : Array Slot} (hdg : decode code pc = .ok (.ireturn, 1)) : W p l e room_1 s m #[Value.ref b] below meth c H [] 601024 7293034 (lw_Z below #[Value.ref b] s) (F0 m pc ls [.int 1]) := by
  intro T hT X
  obtain ⟨fs, hret, hrun, hended, hW, hframe⟩ := X.leave (v := some (.int 1)) (hlocks := hlocks) (fun h => by rw [hr] at h; cases h)
  have hmeth' : T.vm.method? m = some meth := X.method'
  refine ⟨T.setFrames fs, ?_, .returned (some (.int 1)), hrun, hended, rfl, ⟨_, rfl⟩, hW, hframe⟩
  jvm_step X.here [X.here.top, hx, hb, hdg, hmeth', hr, ret, narrow_b1]
  (try refine ⟨rfl, ?_⟩); (try refine ⟨rfl, ?_⟩)
  first | (intro acts; rw [hret _ acts rfl rfl rfl]) | rw [hret _ _ rfl rfl rfl]
  exact Steps.refl _
/-- what holds at the law's entry: the machine, the code, the tables' words (any of lw_tbl by 'hts w (by decide +kernel)'), the script of L ints xs at the cell b, what the Statement gives of the start (any of its parts by flat_of_before) -/
def lw_At (p : Program) (s : State) (m : MethodId) (meth : Method) (c : Code) (b L : Nat) (xs : Nat → Int32) : Prop :=
  p.tables.exec = Jvm.exec ∧ c.code = code ∧ meth.sig.returnType = ret ∧ c.maxLocals = 7 ∧ s.vm.findClass R_law = some m.cls ∧ (∀ w ∈ lw_tbl, w.before #[Value.ref b] s = true) ∧ va_X b L xs s s.heap ∧ b < s.heap.size ∧ meth.locks = false ∧ (Jvm.Cond.and given_1 narrow_1).before #[Value.ref b] s = true ∧ c.exceptionTable.toList = []
/-! ===== the law from its entry: what is left is a statement about the abstract machine ===== -/
def zM0 (L : Nat) (xs : Nat → Int32) : zM := ([], fun _ _ => 0, fun _ _ => 0, L, xs)
def zGoal : Prop := ∀ (L : Nat) (xs : Nat → Int32), L ≤ 3072 → ∃ (n d u : Nat) (M' : zM), zx zR zT n d 385 0 ([.ref 1000000] ++ List.replicate 6 (.float 0)) [] (zM0 L xs) = some (.inl (some (.int 1)), M', u) ∧ d ≤ 1000 ∧ u ≤ 601024
def zat : Cond → List Cond
  | .and a b => zat a ++ zat b
  | c => [c]
theorem zat_of {args : Array Value} {s : State} (c : Cond) : c.before args s = true → ∀ w ∈ zat c, w.before args s = true := by
  induction c with
  | and a b iha ihb =>
    intro h
    rw [Cond.before_and, Bool.and_eq_true] at h
    intro w hw
    rw [zat] at hw
    rcases List.mem_append.mp hw with q | q
    · exact iha h.1 w q
    · exact ihb h.2 w q
  | _ =>
    intro h w hw
    rw [List.mem_singleton.mp hw]
    exact h
def zAtoms : List Cond := zat (Jvm.Cond.and given_1 narrow_1)
/-- the String constants' first places -/
def zRep : List (String × Nat) := [("ColdStores$Parser", 44), ("ColdStores$Parser", 56), ("ColdStores$Parser", 61), ("ColdStores$Parser", 69), ("ColdStores$Parser", 77), ("ColdStores$Parser", 85), ("ColdStores$Parser", 94), ("ColdStores", 83), ("ColdStores", 93), ("ColdStores", 100), ("ColdStores", 411), ("ColdStores", 121), ("ColdStores", 413), ("ColdStores", 415), ("ColdStores", 422), ("ColdStores", 143), ("ColdStores", 159), ("ColdStores", 167), ("ColdStores", 179), ("ColdStores", 191), ("ColdStores", 196), ("ColdStores", 205), ("ColdStores", 213), ("ColdStores", 417), ("ColdStores", 239), ("ColdStores", 250), ("ColdStores", 252), ("ColdStores", 257), ("ColdStores", 277), ("ColdStores", 280), ("ColdStores", 310), ("ColdStores", 333), ("ColdStores", 337), ("ColdStores", 340), ("ColdStores", 345), ("ColdStores", 356), ("ColdStores", 358), ("ColdStores", 372), ("ColdStores", 374), ("ColdStores", 393), ("ColdStores", 401), ("ColdStores", 406)]
def zTm (i : Nat) : Term := .string (zRep.getD i ("", 0)).1 (zRep.getD i ("", 0)).2
def zLen : List Nat := zStrB.map List.length
set_option maxRecDepth 100000 in
theorem zk_ex : ∀ i, i < 42 → Cond.exactly (zTm i) "java/lang/String" ∈ zAtoms := by decide +kernel
set_option maxRecDepth 100000 in
theorem zk_co : ∀ i, i < 7 → Cond.eq (.field (zTm i) "java/lang/String" "coder" "B") (.int 0) ∈ zAtoms := by decide +kernel
set_option maxRecDepth 100000 in
theorem zk_ar : ∀ i, i < 7 → Cond.arrayOf (.field (zTm i) "java/lang/String" "value" "[B") .byte ∈ zAtoms := by decide +kernel
set_option maxRecDepth 100000 in
theorem zk_le : ∀ i, i < 7 → Cond.eq (.length (.field (zTm i) "java/lang/String" "value" "[B")) (.int (Int32.ofNat (zLen.getD i 0))) ∈ zAtoms := by decide +kernel
set_option maxRecDepth 100000 in
theorem zk_el : ∀ i, i < 7 → ∀ j, j < zLen.getD i 0 → Cond.eq (.elem (.field (zTm i) "java/lang/String" "value" "[B") (.int (Int32.ofNat j))) (.int ((zStrB.getD i []).getD j 0)) ∈ zAtoms := by decide +kernel
set_option maxRecDepth 100000 in
theorem zk_lt : ∀ q ∈ zStrs, q.2.2.2 < 42 := by decide +kernel
set_option maxRecDepth 100000 in
theorem zk_eq : ∀ q ∈ zStrs, (q.1, q.2.1) = zRep.getD q.2.2.2 ("", 0) ∨ Cond.eq (zTm q.2.2.2) (.string q.1 q.2.1) ∈ zAtoms := by decide +kernel
set_option maxRecDepth 100000 in
theorem zk_sr : ∀ q ∈ zStrs, Cond.stringRef q.1 q.2.1 q.2.2.1 ∈ lw_tbl := by decide +kernel
theorem zk_di : ∀ i, i < 7 → ∀ j, j < 7 → Int32.ofNat (zLen.getD i 0) = Int32.ofNat (zLen.getD j 0) → (∀ k, k < zLen.getD i 0 → k < zLen.getD j 0 → (zStrB.getD i []).getD k 0 = (zStrB.getD j []).getD k 0) → i = j := by decide +kernel
theorem zk_l31 : ∀ i, i < 7 → zLen.getD i 0 < 2 ^ 31 := by decide +kernel
set_option maxRecDepth 100000 in
theorem zk_in : vwCl.all (fun q => decide (Cond.instantiable q.1 q.2.2 ∈ lw_tbl)) = true := by decide +kernel
theorem zeq_ref {args : Array Value} {s : State} {t u : Term} {a : Nat} (h : (Cond.eq t u).before args s = true) (ht : t.eval args s none [] s = some (.ref a)) : u.eval args s none [] s = some (.ref a) := by
  cases hu : u.eval args s none [] s with
  | none => simp [Cond.before, Cond.holds, Cond.value, ht, hu] at h
  | some w =>
    simp only [Cond.before, Cond.holds, Cond.value, ht, hu] at h
    cases w <;> simp_all
theorem zStr_of {args : Array Value} {s : State} {A : Nat → Prop} (hs : ∀ w ∈ zAtoms, w.before args s = true) (hA : ∀ a : Nat, a < s.heap.size → ¬ A a) :
    ∃ adK adV : Nat → Nat, vk_S zStrN (zStrB.map List.length) zStrB adK adV A s s.heap ∧ ∀ i : Nat, i < 42 → (zTm i).eval args s none [] s = some (.ref (adK i)) := by
  have h0 : ∀ i : Nat, ∃ q : Nat × Nat, (i < 42 → (zTm i).eval args s none [] s = some (.ref q.1)) ∧ (i < 7 → va_O "java/lang/String" q.1 A s s.heap ∧ va_OF "java/lang/String" "coder" "B" (.int 0) q.1 A s s.heap ∧ va_OF "java/lang/String" "value" "[B" (.ref q.2) q.1 A s s.heap ∧ va_T .byte q.2 (zLen.getD i 0) (fun j => .int ((zStrB.getD i []).getD j 0)) A s s.heap) := by
    intro i
    by_cases h42 : i < 42
    · obtain ⟨a, c, cA, kA, q1, q2, q3, q4, q5, q6, -⟩ := Cond.exactly_spec (args := args) (first := s) (o := none) (s := s) (idx := []) (t := zTm i) (cls := "java/lang/String") (hs _ (zk_ex i h42))
      by_cases hi : i < 7
      · obtain ⟨t, ht, hT⟩ := va_Tof (f := fun j => .int ((zStrB.getD i []).getD j 0)) (A := A) (zk_l31 i hi) (hs _ (zk_ar i hi)) (va_eqt (hs _ (zk_le i hi))) (fun j hj => va_eqt (hs _ (zk_el i hi j hj))) hA
        exact ⟨(a, t), fun _ => q1, fun _ => ⟨⟨cA, q3, q5, by rw [q6]; exact q2, hA a (Array.getElem?_eq_some_iff.mp q3).1⟩, vk_OFof q1 (va_eqt (hs _ (zk_co i hi))) hA, vk_OFof q1 ht hA, hT⟩⟩
      · exact ⟨(a, 0), fun _ => q1, fun h => absurd h hi⟩
    · exact ⟨(0, 0), fun h => absurd h h42, fun h => absurd (show i < 42 by omega) h42⟩
  obtain ⟨ad, had⟩ := Classical.axiomOfChoice h0
  refine ⟨fun i => (ad i).1, fun i => (ad i).2, ⟨fun i hi => (had i).2 hi, fun i j hi hj e => ?_⟩, fun i hi => (had i).1 hi⟩
  obtain ⟨-, -, ⟨cf, k, fi, f, cell, a1, a2, a3, a4, a5, a6⟩, ⟨ci, b1, b2, b3, b4, b5, b6, b7⟩⟩ := (had i).2 hi
  obtain ⟨-, -, ⟨cf', k', fi', f', cell', a1', a2', a3', a4', a5', a6'⟩, ⟨ci', b1', b2', b3', b4', b5', b6', b7'⟩⟩ := (had j).2 hj
  have e : (ad i).1 = (ad j).1 := e
  rw [a1] at a1'
  cases a1'
  rw [e, a3'] at a3
  cases a3
  rw [a5] at a5'
  have e2 : (ad i).2 = (ad j).2 := by
    have e9 := Option.some.inj a5'
    injection e9
  rw [e2, b1'] at b1
  cases b1
  refine zk_di i hi j hj (b5.symm.trans b5') (fun q hq1 hq2 => ?_)
  have e3 := (b6 q hq1).symm.trans (b6' q hq2)
  have e4 := Option.some.inj e3
  injection e4
theorem zStat_at {p : Program} {s : State} {m : MethodId} {meth : Method} {c : Code} {b L : Nat} {xs : Nat → Int32} (C0 : lw_At p s m meth c b L xs) : ∃ adK adV : Nat → Nat, zStat b s.heap.size (L, xs) adK adV s := by
  obtain ⟨hx, hb, hr, hml, hown, hts, hX, hbl, hlocks, hgv, hxt⟩ := C0
  have hs : ∀ w ∈ zAtoms, w.before #[Value.ref b] s = true := zat_of _ hgv
  have hA : ∀ a : Nat, a < s.heap.size → ¬ zA s.heap.size a := fun a h => Nat.not_le.mpr h
  obtain ⟨adK, adV, hS, hev⟩ := zStr_of (A := zA s.heap.size) hs hA
  refine ⟨adK, adV, ?_, ?_, hS, ?_, ?_, ?_, ?_, ?_, ?_, hX, hbl, Nat.le_refl _⟩
  · intro w hw
    have h1 := List.mem_filter.mp hw
    refine va_Nw.of ?_ (hts w h1.1)
    have h2 := h1.2
    cases w <;> first | rfl | (exact absurd h2 (by simp [zIs]))
  · intro q hq
    refine vk_R.of (hts _ (zk_sr q hq)) ?_
    have h1 := hev _ (zk_lt q hq)
    rcases zk_eq q hq with h | h
    · have h2 : zTm q.2.2.2 = .string q.1 q.2.1 := by
        unfold zTm
        rw [← h]
      rw [h2] at h1
      exact h1
    · exact zeq_ref (hs _ h) h1
  · exact va_Zof (hts (.laysStatic "java/lang/String" "COMPACT_STRINGS" "Z") (by decide +kernel)) (hts (.initialized "java/lang/String") (by decide +kernel)) (va_eqt (hs (.eq (.static "java/lang/String" "COMPACT_STRINGS" "Z") (.int 1)) (by decide +kernel))) hA
  · exact va_Zqof (hts (.laysStatic "jdk/internal/util/Preconditions" "SIOOBE_FORMATTER" "Ljava/util/function/BiFunction;") (by decide +kernel)) (hts (.initialized "jdk/internal/util/Preconditions") (by decide +kernel)) (hs (.isRef (.static "jdk/internal/util/Preconditions" "SIOOBE_FORMATTER" "Ljava/util/function/BiFunction;")) (by decide +kernel)) hA
  · exact vx_Zqof (hts (.laysStatic Bundle.tN "UNASSIGNED_STACK" Bundle.steD) (by decide +kernel)) (hts (.initialized Bundle.tN) (by decide +kernel)) (hs (.isRef (.static Bundle.tN "UNASSIGNED_STACK" Bundle.steD)) (by decide +kernel)) hA
  · exact vx_Zqof (hts (.laysStatic Bundle.tN "SUPPRESSED_SENTINEL" Bundle.listD) (by decide +kernel)) (hts (.initialized Bundle.tN) (by decide +kernel)) (hs (.isRef (.static Bundle.tN "SUPPRESSED_SENTINEL" Bundle.listD)) (by decide +kernel)) hA
  · have h9 : ∀ q ∈ zNcs, Cond.not (.castable q.1 q.2) ∈ zAtoms := by decide +kernel
    exact fun q hq => va_Nc.of (hs _ (h9 q hq))
  · have h9 : ∀ C ∈ zAOs, Cond.arrayOver (.object C) ∈ lw_tbl := by decide +kernel
    exact fun C hC => va_AO.of (hts _ (h9 C hC))
set_option maxHeartbeats 4000000 in
theorem whole_start_of (hg : zGoal) {p : Program} {e : Env} {s : State} {m : MethodId} {below : List Frame} {meth : Method} {c : Code} (l : Launch) (hflags : l.flags = flags0) {b L : Nat} {xs : Nat → Int32} (hL : L ≤ 3072) (C0 : lw_At p s m meth c b L xs) : W p l e room_1 s m #[Value.ref b] below meth c s.heap [] 0 0 (lw_Z below #[Value.ref b] s) (entryFrame m ([Value.ref b] : List Value).toArray 7) := by
  obtain ⟨adK, adV, hst⟩ := zStat_at C0
  obtain ⟨hx, hb, hr, hml, hown, hts, hX, hbl, hlocks, hgv, hxt⟩ := C0
  obtain ⟨n, d, u, M', hrun, hd, hu⟩ := hg L xs hL
  have hl : l.stackTraces = false := by
    unfold Launch.stackTraces
    rw [hflags]
    decide +kernel
  have hk : ∀ ci : Nat, ∃ x : ClassId × (Nat → Nat), ∀ q : vw_C, vwCl[ci]? = some q → u_Kn s q.1 q.2.1 q.2.2 x.1 x.2 := by
    intro ci
    cases hq : vwCl[ci]? with
    | none => exact ⟨(0, fun _ => 0), fun q h => by cases h⟩
    | some q =>
      obtain ⟨cC, iS, h⟩ := u_known (C := q.1) (T := q.2.1) (N := q.2.2) (n := q.2.2) hts (fun w hw => zWd_tbl ((zcl_ok ci q hq).1 w hw)) (hts _ (of_decide_eq_true (List.all_eq_true.mp zk_in q (List.mem_of_getElem? hq))))
      exact ⟨(cC, iS), fun q' h' => by cases h'; exact h⟩
  obtain ⟨dk, hdk⟩ := Classical.axiomOfChoice hk
  have hW : zWo (fun c => (dk c).1, fun c => (dk c).2) s.heap.size (L, xs) (zsp b adK adV) (zsp b adK adV) (fun _ => 0) [] (zM0 L xs) s s.heap := by
    refine ⟨⟨fun ci q hq => hdk ci q hq, fun k q h => by simp at h⟩, fun k q h => by simp [zWs, zM0] at h, ⟨fun i j p q h => by simp [zWs, zM0] at h, fun k q h => by simp [zWs, zM0] at h⟩, fun k t h => by simp [zM0] at h, fun k _ => rfl, Nat.zero_le _, rfl⟩
  have hC : zCx b s.heap.size (L, xs) adK adV (zR 385) p l s m #[Value.ref b] meth c := ⟨hx, hb, hml, hown, fun w hw => hts w (zWd_tbl hw), hl, hlocks, fun h => absurd h (by decide +kernel), hst⟩
  have hrs : zrs (zsp b adK adV) 0 [.ref 1000000] [.ref b] := ⟨⟨Or.inr (Nat.le_refl _), rfl⟩, trivial⟩
  have hLo : zLo (zsp b adK adV) 0 7 ([.ref 1000000] ++ List.replicate (7 - ([.ref 1000000] : List Value).length) (.float 0)) ((lg_sl ([.ref b] : List Value) ++ List.replicate (7 - (lg_sl ([.ref b] : List Value)).length) Slot.unset).toArray) := zLo_entry hrs rfl (by decide)
  rw [lg_entry_eq]
  refine zsound zTok_all n d 385 0 _ _ _ _ _ _ hrun (Or.inr rfl) p l e room_1 s m #[Value.ref b] below meth c s.heap [] 0 0 _ _ [] (fun c => (dk c).1, fun c => (dk c).2) b s.heap.size (L, xs) adK adV (zsp b adK adV) (fun _ => 0) [] 601024 7293034 hC hxt hW va_S.rf hLo trivial ?_ ?_ (Nat.le_refl _) (Nat.le_refl _) (by omega) (by omega) ?_ ?_ ?_
  · show d + 20 ≤ 2048
    omega
  · show 64 * d + 300 ≤ 84000
    omega
  · intro ad' κ' tys' H' locs' pc' ls' st' hext hW' hS' hret
    obtain ⟨hd9, -, rfl⟩ := hret
    exact va_forget (fun q hq => hS'.2.2 q hq) (lw_ret hx hb hr hlocks hd9)
  · intro k ad' κ' tys' H' locs' pc' ls' st' cells' slots' k0 b0 is0 ic0 h
    cases h
  · intro k ce q9 ad' κ' tys' H' locs' pc' ls' st' h
    cases h
