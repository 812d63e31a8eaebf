/-! ===== calls ===== -/
theorem zrs_split {ad : Nat → Nat} {n : Nat} : ∀ {A B st : List Value}, zrs ad n (A ++ B) st → ∃ a b, st = a ++ b ∧ zrs ad n A a ∧ zrs ad n B b
  | [], _, st, h => ⟨[], st, rfl, trivial, h⟩
  | x :: A, B, [], h => h.elim
  | x :: A, B, v :: st, h => by
    obtain ⟨a, b, e, h1, h2⟩ := zrs_split (A := A) (B := B) h.2
    exact ⟨v :: a, b, by rw [e]; rfl, ⟨h.1, h1⟩, h2⟩
theorem zarg_spec {M : zM} {r : zRec} {n : Nat} {S as S' : List Value} (h : zarg M r n S = some (as, S')) : (as.all fun v => v.category == 1) = true ∧ as.length ≤ zRl r ∧ (S'.map fun v => v.category).sum ≤ 8 ∧
    ((zRk r = 1 ∧ as.length = n ∧ S = as.reverse ++ S') ∨ (zRk r ≠ 1 ∧ ∃ b as0, as = .ref b :: as0 ∧ as0.length = n ∧ S = as0.reverse ++ .ref b :: S' ∧ zrecv M (zRc r) b = true)) := by
  unfold zarg at h
  simp only at h
  split at h
  · cases h
  · rename_i hc
    have hc1 : n ≤ S.length := by
      rcases Nat.lt_or_ge S.length n with q | q
      · exact absurd (Or.inl q) hc
      · exact q
    have hc2 : ((S.take n).reverse.all fun v => v.category == 1) = true := by
      cases hq : ((S.take n).reverse.all fun v => v.category == 1) with
      | true => rfl
      | false => exact absurd (Or.inr (by rw [hq]; decide)) hc
    have hl : (S.take n).reverse.length = n := by rw [List.length_reverse, List.length_take]; omega
    split at h
    · rename_i hk
      split at h
      · rename_i hq
        cases h
        refine ⟨hc2, by omega, hq.1, Or.inl ⟨hk, hl, ?_⟩⟩
        rw [List.reverse_reverse, List.take_append_drop]
      · cases h
    · rename_i hk
      split at h
      · rename_i b S0 hdr
        split at h
        · rename_i hq
          cases h
          refine ⟨by rw [List.all_cons, hc2]; rfl, by rw [List.length_cons]; omega, hq.1, Or.inr ⟨hk, b, _, rfl, hl, ?_, hq.2.2⟩⟩
          rw [List.reverse_reverse, ← hdr, List.take_append_drop]
        · cases h
      · cases h
theorem zGoodIn {ws : List Cond} (h : ∀ w ∈ ws, w ∈ zWd) : GoodIn zWd ws := fun w hw => ⟨h w hw, good_of_word (zWd_good (h w hw))⟩
theorem zws_mem {r : zRec} (hr : zokR r = true) : ∀ w ∈ zws r, w ∈ zWd := by
  simp only [zokR, Bool.and_eq_true] at hr
  have hcode := hr.1.1.1.2
  intro w hw
  unfold zws at hw
  rcases List.mem_cons.mp hw with rfl | hw
  · by_cases hh : zRh r = []
    · rw [if_pos hh] at hcode ⊢
      exact zIn_mem hcode
    · rw [if_neg hh] at hcode ⊢
      simp only [Bool.and_eq_true] at hcode
      exact zIn_mem hcode.1.1
  · exact hw
theorem zrecv_ok {D : va_G} {b sz0 : Nat} {sc : Nat × (Nat → Int32)} {adK adV ad : Nat → Nat} {κ : Nat → ClassId} {tys : List (ClassId × FieldType)} {M : zM} {s : State} {H : Heap} {locs : List Loc} (hW : zWo D sz0 sc (zsp b adK adV) ad κ tys M s H) (hst : zStat b sz0 sc adK adV s) (hS : va_S (zA sz0) s.heap H locs)
    {c k : Nat} {C : String} (h : zrecv M c k = true) (hc : if c < 50 then (vwCl[c]?).map (fun q => q.1) = some C else C = "java/lang/String") : ∃ cellB : Cell, H[ad k]? = some cellB ∧ cellB.vm.isStatics = false ∧ s.vm.findClass C = some cellB.cls := by
  unfold zrecv at h
  by_cases h5 : c < 50
  · rw [if_pos h5] at h hc
    split at h
    · rename_i t ht
      simp only [decide_eq_true_eq] at h
      have he := zWs_get (ad := ad) (κ := κ) ht
      rw [zE_obj h] at he
      cases hq : vwCl[c]? with
      | none => rw [hq] at hc; cases hc
      | some q =>
        rw [hq] at hc
        cases hc
        exact va_recv hW.1 hW.2.1 hq he
    · cases h
  · rw [if_neg h5] at h hc
    subst hc
    simp only [decide_eq_true_eq] at h
    have hz : zStrN = 7 := rfl
    have had : ad k = adK (k - 2000000) := by
      rw [hW.2.2.2.2.1 _ (by omega)]
      unfold zsp
      rw [if_neg (by omega), if_pos (by omega)]
    rw [had]
    exact vk_recv hst.2.2.1 (by omega) hS
set_option maxHeartbeats 4000000 in
set_option maxRecDepth 100000 in
theorem zrun {Rr : Nat → zRec} {T : Nat → List (List (Option zOp))} {N n : Nat} (hT : zTok Rr T N) (hn : zSnd Rr T N n) {p : Program} {l : Launch} {e : Env} {R : Room} {s : State} {m : MethodId} {args : Array Value} {below : List Frame} {meth : Method} {c : Code} {H : Heap} {locs : List Loc} {cells slots : Nat} {pc : Nat} {ls : Array Slot} {st : List Value}
    {D : va_G} {b sz0 : Nat} {sc : Nat × (Nat → Int32)} {adK adV ad : Nat → Nat} {κ : Nat → ClassId} {tys : List (ClassId × FieldType)} {y d u : Nat} {M M1 : zM} {o : zO} {S as S' : List Value} {i : Instr} {len a b1 c1 w : Nat}
    (C : zCx b sz0 sc adK adV (Rr y) p l s m args meth c) (hd : decode (zRb (Rr y)) pc = .ok (i, 3)) (hi : (∃ k, i = .invokevirtual k) ∨ (∃ k, i = .invokestatic k) ∨ ∃ k, i = .invokespecial k) (hX : zokX Rr N (Rr y) pc (i, len, a, b1, c1, w) = true) (ha : a < 9000)
    (harg : zarg M (Rr a) b1 S = some (as, S')) (hrun : zx Rr T n d a 0 (as ++ List.replicate (zRl (Rr a) - as.length) (.float 0)) [] M = some (o, M1, u))
    (hW : zWo D sz0 sc (zsp b adK adV) ad κ tys M s H) (hS : va_S (zA sz0) s.heap H locs) (hlsz : ls.size = zRl (Rr y)) (hs : zrs ad M.1.length S st) (hRf : d + 21 ≤ R.frames) (hRl : 64 * d + 364 ≤ R.locals) (hc : cells + u ≤ R.cells) (hsl : slots + u ≤ R.slots) :
    ∃ (rest : List Value) (a9 : Array Value), zrs ad M.1.length S' rest ∧ vx_Run p l e R s m args below meth c H locs cells slots u u (F0 m pc ls st) rest (zQc D b sz0 sc adK adV ad M.1.length M1 o a9) (zXC D b sz0 sc adK adV ad M.1.length M1 o) (zA sz0) := by
  obtain ⟨hx, hb, hml, hown, hts, hlt, hlk, hnm, hst⟩ := C
  obtain ⟨hcat, hlen, hsum, hargs⟩ := zarg_spec harg
  have haN : a < N := by
    rcases hi with ⟨k, rfl⟩ | ⟨k, rfl⟩ | ⟨k, rfl⟩
    · simp only [zokX, Bool.and_eq_true, decide_eq_true_eq] at hX
      exact hX.1.1.1
    · simp only [zokX, Bool.and_eq_true, Bool.or_eq_true, decide_eq_true_eq] at hX
      rcases hX with hX | hX
      · omega
      · exact hX.1.1
    · simp only [zokX, Bool.and_eq_true, Bool.or_eq_true, decide_eq_true_eq] at hX
      rcases hX with hX | hX
      · omega
      · exact hX.1.1
  have hok := hT.1 a haN
  have hM := zmet hT hn haN hrun hlen hcat l hlt D b sz0 sc adK adV ad κ tys
  have hmem := zws_mem hok
  have hokk := hok
  simp only [zokR, Bool.and_eq_true, decide_eq_true_eq] at hok
  obtain ⟨⟨⟨⟨⟨⟨hgd, hl40⟩, hini⟩, hcode⟩, hhh⟩, hee⟩, hkind⟩ := hok
  simp only [zGd, Bool.and_eq_true, decide_eq_true_eq] at hgd
  have hS9 : CallFix p m c (zRb (Rr y)) (zRl (Rr y)) s args zWd (zRn (Rr y)).cls := ⟨hx, hb, hml, hown, hts⟩
  have hpc : ∀ (cs : List Value), zrs ad M.1.length as cs → ∀ U : State, U.heap = H → s.WarmedH U.vm → zPc D b sz0 sc adK adV ad κ tys M as cs.toArray U := fun cs hcs U hU hWm =>
    ⟨cs, rfl, hcs, zStat_warm hWm (by rw [hU]; exact hS.1) (fun q h1 h2 => by rw [hU]; exact hS.2.1 q h1 h2) hst, by rw [hU]; exact zWo_moved hWm.alike hW⟩
  have hRm : d + 20 + 1 ≤ R.frames ∧ 8 + (zRl (Rr a) + 11) + (64 * d + 300) ≤ R.locals := ⟨by omega, by omega⟩
  have hws : zRh (Rr a) = [] → zws (Rr a) = Cond.code (zRn (Rr a)) (zRb (Rr a)) (zRl (Rr a)) (zRr (Rr a)) :: zWd := fun hh => by unfold zws; rw [if_pos hh]
  rcases hargs with ⟨hk1, hasn, rfl⟩ | ⟨hk1, bb, as0, rfl, hasn, rfl, hrcv⟩
  · -- static
    obtain ⟨stA, rest, rfl, hsA, hsR⟩ := zrs_split hs
    have hcs : zrs ad M.1.length as stA.reverse := by
      have h1 := zrs_rev hsA
      rwa [List.reverse_reverse] at h1
    have hstk : (stA ++ rest) = stA.reverse.reverse ++ rest := by rw [List.reverse_reverse]
    have hrm : 2 * (F0 m pc ls (stA ++ rest)).monitorRoom + (rest.map fun v => v.category).sum ≤ 8 := lv_room (by rw [zrs_sum hsR]; exact hsum)
    have hn1 : stA.reverse.length = b1 := by rw [zrs_len hcs, hasn]
    refine ⟨rest, stA.reverse.toArray, hsR, ?_⟩
    rw [if_neg (by omega), if_pos hk1] at hkind
    rcases hi with ⟨k, rfl⟩ | ⟨k, rfl⟩ | ⟨k, rfl⟩
    · simp only [zokX, Bool.and_eq_true, decide_eq_true_eq] at hX
      omega
    · simp only [zokX, Bool.and_eq_true, Bool.or_eq_true, decide_eq_true_eq] at hX
      rcases hX with hX | hX
      · omega
      · obtain ⟨⟨-, -⟩, hI⟩ := hX
        simp only [zokI, Bool.and_eq_true, decide_eq_true_eq] at hI
        obtain ⟨hprs, hI⟩ := hI
        by_cases hc10 : c1 < 10
        · rw [if_pos hc10] at hI
          have hG : GoodIn zWd (va_wsS (zRn (Rr y)).cls k (zRn (Rr a)) (zws (Rr a))) := zGoodIn (fun w9 hw9 => by
            simp only [va_wsS, List.mem_append, List.mem_cons, List.not_mem_nil, or_false] at hw9
            rcases hw9 with (rfl | rfl | rfl) | hw9
            · exact zIn_mem hI
            · exact zIn_mem hkind
            · exact zIn_mem hini
            · exact hmem _ hw9)
          by_cases hh : zRh (Rr a) = []
          · exact vx_runS hS9 hM (va_cwS b1 hts hG (hws hh) rfl rfl ⟨hgd.1.2, hgd.2, hprs⟩ hRm) ⟨zPc_blind, fun U hU hWm => hpc _ hcs U hU hWm⟩ rfl hn1 hlsz hstk hrm hd ⟨hc, hsl⟩
          · have hws2 : zws (Rr a) = Cond.codeWith (zRn (Rr a)) (zRb (Rr a)) (zRl (Rr a)) (zRr (Rr a)) (zRh (Rr a)) :: zWd := by unfold zws; rw [if_neg hh]
            exact vx_runSX hS9 hM (vx_cwSW b1 hts hG hws2 rfl rfl ⟨hgd.1.2, hgd.2, hprs⟩ hRm) ⟨zPc_blind, fun U hU hWm => hpc _ hcs U hU hWm⟩ rfl hn1 hlsz hstk hrm hd ⟨hc, hsl⟩
        · rw [if_neg hc10] at hI
          simp only [Bool.and_eq_true, decide_eq_true_eq] at hI
          obtain ⟨⟨hI, hh⟩, -⟩ := hI
          exact vx_runSN hS9 hM ⟨va_cnB b1 hts (zGoodIn hmem) (hws hh) rfl rfl (hst.1 _ (zInB_mem hI)) (hts _ (zIn_mem hini)) ⟨hgd.1.2, hgd.2, hprs⟩ hRm, hts _ (zIn_mem hkind), trivial⟩ ⟨zPc_blind, fun U hU hWm => hpc _ hcs U hU hWm⟩ rfl hn1 hlsz hstk hrm hd ⟨hc, hsl⟩
    · simp only [zokX, Bool.and_eq_true, Bool.or_eq_true, decide_eq_true_eq] at hX
      omega
  · -- with a receiver
    obtain ⟨stA, rest0, rfl, hsA, hsR0⟩ := zrs_split hs
    obtain ⟨v, rest, rfl, hv, hsR⟩ := zrs_cons hsR0
    obtain ⟨hbb, rfl⟩ := hv
    have hcs : zrs ad M.1.length as0 stA.reverse := by
      have h1 := zrs_rev hsA
      rwa [List.reverse_reverse] at h1
    have hcsA : zrs ad M.1.length (.ref bb :: as0) (.ref (ad bb) :: stA.reverse) := ⟨⟨hbb, rfl⟩, hcs⟩
    have hstk : (stA ++ .ref (ad bb) :: rest) = stA.reverse.reverse ++ .ref (ad bb) :: rest := by rw [List.reverse_reverse]
    have hrm : 2 * (F0 m pc ls (stA ++ .ref (ad bb) :: rest)).monitorRoom + (rest.map fun v => v.category).sum ≤ 8 := lv_room (by rw [zrs_sum hsR]; exact hsum)
    have hn1 : stA.reverse.length = b1 := by rw [zrs_len hcs, hasn]
    have hnoh : zRh (Rr a) = [] := by
      by_cases hh : zRh (Rr a) = []
      · exact hh
      · rw [if_neg hh] at hcode
        simp only [Bool.and_eq_true, decide_eq_true_eq] at hcode
        exact absurd hcode.2 hk1
    refine ⟨rest, (Value.ref (ad bb) :: stA.reverse).toArray, hsR, ?_⟩
    rcases hi with ⟨k, rfl⟩ | ⟨k, rfl⟩ | ⟨k, rfl⟩
    · simp only [zokX, Bool.and_eq_true, decide_eq_true_eq] at hX
      obtain ⟨⟨⟨-, hc10⟩, hk0⟩, hI⟩ := hX
      simp only [zokI, Bool.and_eq_true, decide_eq_true_eq] at hI
      obtain ⟨hprs, hI⟩ := hI
      rw [if_pos hc10] at hI
      rw [if_pos hk0] at hkind
      simp only [Bool.and_eq_true] at hkind
      obtain ⟨⟨hinst, hsel⟩, hrc⟩ := hkind
      have hrc2 : if zRc (Rr a) < 50 then (vwCl[zRc (Rr a)]?).map (fun q => q.1) = some (zRn (Rr a)).cls else (zRn (Rr a)).cls = "java/lang/String" := by
        split at hrc
        · rename_i h5
          rw [if_pos h5]
          simpa using hrc
        · rename_i h5
          rw [if_neg h5]
          simpa using hrc
      have hG : GoodIn zWd (wsV (zRn (Rr y)).cls k (zRn (Rr a)).cls (zRn (Rr a)) (zws (Rr a))) := zGoodIn (fun w9 hw9 => by
        simp only [wsV, List.mem_append, List.mem_cons, List.not_mem_nil, or_false] at hw9
        rcases hw9 with (rfl | rfl | rfl | rfl) | hw9
        · exact zIn_mem hI
        · exact zIn_mem hinst
        · exact zIn_mem hsel
        · exact zIn_mem hini
        · exact hmem _ hw9)
      exact vx_runV hS9 hM (cwV b1 hts hG (hws hnoh) rfl rfl ⟨rfl, hgd.1.2, hgd.2, hprs⟩ hRm) ⟨zPc_blind, zrecv_ok hW hst hS hrcv hrc2, fun U hU hWm => hpc _ hcsA U hU hWm⟩ rfl hn1 hlsz hstk hrm hd ⟨hc, hsl⟩
    · simp only [zokX, Bool.and_eq_true, Bool.or_eq_true, decide_eq_true_eq] at hX
      omega
    · simp only [zokX, Bool.and_eq_true, Bool.or_eq_true, decide_eq_true_eq] at hX
      rcases hX with hX | hX
      · omega
      · obtain ⟨⟨-, hk2⟩, hI⟩ := hX
        simp only [zokI, Bool.and_eq_true, decide_eq_true_eq] at hI
        obtain ⟨hprs, hI⟩ := hI
        rw [if_neg (by omega), if_neg hk1] at hkind
        simp only [Bool.and_eq_true, decide_eq_true_eq] at hkind
        obtain ⟨⟨⟨⟨-, hinst⟩, hnmi⟩, hrn⟩, -⟩ := hkind
        have hws3 : zws (Rr a) = Cond.code (zRn (Rr a)) (zRb (Rr a)) (zRl (Rr a)) none :: zWd := by rw [hws hnoh, hrn]
        by_cases hc10 : c1 < 10
        · rw [if_pos hc10] at hI
          exact vx_runI hS9 hM (cwI b1 hts (zGoodIn hmem) hws3 rfl rfl (hts _ (zIn_mem hini)) (hts _ (zIn_mem hI)) (hts _ (zIn_mem hinst)) hnmi ⟨hgd.1.2, hgd.2, hprs⟩ hRm) ⟨zPc_blind, fun U hU hWm => hpc _ hcsA U hU hWm⟩ rfl hn1 hlsz hstk hrm hd ⟨hc, hsl⟩
        · rw [if_neg hc10] at hI
          simp only [Bool.and_eq_true, decide_eq_true_eq] at hI
          obtain ⟨⟨hI, -⟩, -⟩ := hI
          exact vx_runIN hS9 hM ⟨va_cnB b1 hts (zGoodIn hmem) hws3 rfl rfl (hst.1 _ (zInB_mem hI)) (hts _ (zIn_mem hini)) ⟨hgd.1.2, hgd.2, hprs⟩ hRm, hnmi, hts _ (zIn_mem hinst)⟩ ⟨zPc_blind, fun U hU hWm => hpc _ hcsA U hU hWm⟩ rfl hn1 hlsz hstk hrm hd ⟨hc, hsl⟩
