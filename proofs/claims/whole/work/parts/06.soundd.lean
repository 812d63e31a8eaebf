theorem zObj : Cond.instanceMethod Lib.objectInit ∈ zWd ∧ Cond.code Lib.objectInit ⟨#[0xb1]⟩ 1 none ∈ zWd := ⟨List.mem_filter.mpr ⟨by decide +kernel, by decide +kernel⟩, List.mem_filter.mpr ⟨by decide +kernel, by decide +kernel⟩⟩
theorem zCopyW : Cond.native arraycopyName ∈ zWd ∧ Cond.static arraycopyName ∈ zWd ∧ Cond.initialized "java/lang/System" ∈ zWd := ⟨List.mem_filter.mpr ⟨by decide +kernel, by decide +kernel⟩, List.mem_filter.mpr ⟨by decide +kernel, by decide +kernel⟩, List.mem_filter.mpr ⟨by decide +kernel, by decide +kernel⟩⟩
theorem zIni_math : Cond.initialized "java/lang/Math" ∈ zWd := List.mem_filter.mpr ⟨by decide +kernel, by decide +kernel⟩
theorem zMaxW : Cond.static Lib.Math.max.name ∈ zWd ∧ Cond.code Lib.Math.max.name Lib.Math.max.code 2 (some .int) ∈ zWd := ⟨List.mem_filter.mpr ⟨by decide +kernel, by decide +kernel⟩, List.mem_filter.mpr ⟨by decide +kernel, by decide +kernel⟩⟩
theorem zMinW : Cond.static Lib.Math.min.name ∈ zWd ∧ Cond.code Lib.Math.min.name Lib.Math.min.code 2 (some .int) ∈ zWd := ⟨List.mem_filter.mpr ⟨by decide +kernel, by decide +kernel⟩, List.mem_filter.mpr ⟨by decide +kernel, by decide +kernel⟩⟩
theorem zAbsW : Cond.static Lib.Math.abs.name ∈ zWd ∧ Cond.code Lib.Math.abs.name Lib.Math.abs.code 1 (some .int) ∈ zWd := ⟨List.mem_filter.mpr ⟨by decide +kernel, by decide +kernel⟩, List.mem_filter.mpr ⟨by decide +kernel, by decide +kernel⟩⟩
/-! ===== one step of the abstract machine is a step of the machine ===== -/
set_option maxHeartbeats 4000000 in
set_option maxRecDepth 100000 in
theorem zstep_W {p : Program} {l : Launch} {e : Env} {R : Room} {s : State} {m : MethodId} {args : Array Value} {below : List Frame} {meth : Method} {c : Code} {H : Heap} {locs : List Loc} {cells slots : Nat} {Q : State → Prop} {pc : Nat} {ls : Array Slot} {st : List Value}
    {D : va_G} {b sz0 : Nat} {sc : Nat × (Nat → Int32)} {adK adV : Nat → Nat} {r : zRec} {ad : Nat → Nat} {κ : Nat → ClassId} {tys : List (ClassId × FieldType)} {M M' : zM} {L L' S S' : List Value} {pc' : Nat} {op : zOp}
    (C : zCx b sz0 sc adK adV r p l s m args meth c) (hd : zokD r pc op = true) (ho : zokS r pc op = true) (h : zstep op pc L S M = some (pc', L', S', M'))
    (hW : zWo D sz0 sc (zsp b adK adV) ad κ tys M s H) (hS : va_S (zA sz0) s.heap H locs) (hL : zLo ad M.1.length (zRl r) L ls) (hs : zrs ad M.1.length S st) (hRf : 1 ≤ R.frames) (hRl : 200 ≤ R.locals) (hcR : cells ≤ R.cells) (hsR : slots ≤ R.slots)
    (kk : ∀ (H1 : Heap) (locs1 : List Loc) (ls1 : Array Slot) (st1 : List Value), zWo D sz0 sc (zsp b adK adV) ad κ tys M' s H1 → va_S (zA sz0) s.heap H1 locs1 → zLo ad M'.1.length (zRl r) L' ls1 → zrs ad M'.1.length S' st1 →
      W p l e R s m args below meth c H1 locs1 cells slots Q (F0 m pc' ls1 st1)) : W p l e R s m args below meth c H locs cells slots Q (F0 m pc ls st) := by
  obtain ⟨hx, hb, hml, hown, hts, hlt, hlk, hnm, hst⟩ := C
  obtain ⟨i, len, a, b1, c1, w⟩ := op
  simp only [zokD, decide_eq_true_eq] at hd
  have hlsz : ls.size = zRl r := by obtain ⟨-, lv, hl, -⟩ := hL; exact hl.1
  cases i with
  | iconst v =>
    simp only [zstep] at h
    simp only [Option.some.injEq, Prod.mk.injEq] at h
    obtain ⟨rfl, rfl, rfl, rfl⟩ := h
    exact lv_iconst hx hb hd rfl (kk _ _ _ _ hW hS hL ⟨rfl, hs⟩)
  | bipush v =>
    simp only [zokS, decide_eq_true_eq] at ho
    simp only [zstep] at h
    simp only [Option.some.injEq, Prod.mk.injEq] at h
    obtain ⟨rfl, rfl, rfl, rfl⟩ := h
    exact lv_bipush hx hb hd ho (kk _ _ _ _ hW hS hL ⟨rfl, hs⟩)
  | sipush v =>
    simp only [zokS, decide_eq_true_eq] at ho
    simp only [zstep] at h
    simp only [Option.some.injEq, Prod.mk.injEq] at h
    obtain ⟨rfl, rfl, rfl, rfl⟩ := h
    exact lv_sipush hx hb hd ho (kk _ _ _ _ hW hS hL ⟨rfl, hs⟩)
  | lconst v =>
    simp only [zstep] at h
    simp only [Option.some.injEq, Prod.mk.injEq] at h
    obtain ⟨rfl, rfl, rfl, rfl⟩ := h
    exact lv_lconst hx hb hd rfl (kk _ _ _ _ hW hS hL ⟨rfl, hs⟩)
  | aconst_null =>
    simp only [zstep] at h
    simp only [Option.some.injEq, Prod.mk.injEq] at h
    obtain ⟨rfl, rfl, rfl, rfl⟩ := h
    exact lv_null hx hb hd (kk _ _ _ _ hW hS hL ⟨rfl, hs⟩)
  | ldc k =>
    simp only [zstep] at h
    simp only [zokS] at ho
    split at h
    · rename_i ha
      simp only [if_pos ha] at ho
      simp only [Option.some.injEq, Prod.mk.injEq] at h
      obtain ⟨rfl, rfl, rfl, rfl⟩ := h
      exact lv_ldc hx hb hown (hts _ (zIn_mem ho)) hd (kk _ _ _ _ hW hS hL ⟨rfl, hs⟩)
    · rename_i ha
      simp only [if_neg ha] at ho
      split at h
      · rename_i hb1
        simp only [Option.some.injEq, Prod.mk.injEq] at h
        obtain ⟨rfl, rfl, rfl, rfl⟩ := h
        obtain ⟨q, hq, hq2⟩ := List.any_eq_true.mp ho
        simp only [Bool.and_eq_true, decide_eq_true_eq] at hq2
        obtain ⟨⟨e1, e2⟩, e3⟩ := hq2
        have hR := hst.2.1 q hq
        rw [e1, e2, e3] at hR
        have had : ad (2000000 + b1) = adK b1 := by
          rw [hW.2.2.2.2.1 _ (by omega)]
          unfold zsp
          have hz : zStrN = 7 := rfl
          rw [if_neg (by omega), if_pos (by omega)]
          exact congrArg adK (by omega)
        have hge : 1000000 ≤ 2000000 + b1 := by omega
        exact va_ldcS hx hb hown hR hd (kk _ _ _ _ hW hS hL ⟨⟨Or.inr hge, by rw [had]⟩, hs⟩)
      · cases h
  | ldc_w k =>
    simp only [zstep] at h
    simp only [zokS] at ho
    split at h
    · simp only [Option.some.injEq, Prod.mk.injEq] at h
      obtain ⟨rfl, rfl, rfl, rfl⟩ := h
      exact lv_ldcw hx hb hown (hts _ (zIn_mem ho)) hd (kk _ _ _ _ hW hS hL ⟨rfl, hs⟩)
    · cases h
  | iload k =>
    simp only [zstep] at h
    split at h
    · rename_i v hv
      simp only [Option.some.injEq, Prod.mk.injEq] at h
      obtain ⟨rfl, rfl, rfl, rfl⟩ := h
      obtain ⟨x, rfl, hx1⟩ := zild_some hv
      obtain ⟨v, h1, h2⟩ := zLo_get hL hx1 (by simp)
      obtain rfl : v = .int x := h2
      exact lv_iload hx hb hd h1 (kk _ _ _ _ hW hS hL ⟨rfl, hs⟩)
    · cases h
  | iload_n k =>
    simp only [zstep] at h
    split at h
    · rename_i v hv
      simp only [Option.some.injEq, Prod.mk.injEq] at h
      obtain ⟨rfl, rfl, rfl, rfl⟩ := h
      obtain ⟨x, rfl, hx1⟩ := zild_some hv
      obtain ⟨v, h1, h2⟩ := zLo_get hL hx1 (by simp)
      obtain rfl : v = .int x := h2
      exact lv_iload_n hx hb hd rfl h1 (kk _ _ _ _ hW hS hL ⟨rfl, hs⟩)
    · cases h
  | aload k =>
    simp only [zstep] at h
    split at h
    · rename_i v hv
      simp only [Option.some.injEq, Prod.mk.injEq] at h
      obtain ⟨rfl, rfl, rfl, rfl⟩ := h
      rcases zald_some hv with ⟨x, rfl, hx1⟩ | ⟨rfl, hx1⟩
      · obtain ⟨v, h1, h2⟩ := zLo_get hL hx1 (by simp)
        obtain ⟨h3, rfl⟩ := h2
        exact lv_aload hx hb hd h1 (kk _ _ _ _ hW hS hL ⟨⟨h3, rfl⟩, hs⟩)
      · obtain ⟨v, h1, h2⟩ := zLo_get hL hx1 (by simp)
        obtain rfl : v = .null := h2
        exact lv_aloadN hx hb hd h1 (kk _ _ _ _ hW hS hL ⟨rfl, hs⟩)
    · cases h
  | aload_n k =>
    simp only [zstep] at h
    split at h
    · rename_i v hv
      simp only [Option.some.injEq, Prod.mk.injEq] at h
      obtain ⟨rfl, rfl, rfl, rfl⟩ := h
      rcases zald_some hv with ⟨x, rfl, hx1⟩ | ⟨rfl, hx1⟩
      · obtain ⟨v, h1, h2⟩ := zLo_get hL hx1 (by simp)
        obtain ⟨h3, rfl⟩ := h2
        exact lv_aload_n hx hb hd rfl h1 (kk _ _ _ _ hW hS hL ⟨⟨h3, rfl⟩, hs⟩)
      · obtain ⟨v, h1, h2⟩ := zLo_get hL hx1 (by simp)
        obtain rfl : v = .null := h2
        exact lv_aload_nN hx hb hd rfl h1 (kk _ _ _ _ hW hS hL ⟨rfl, hs⟩)
    · cases h
  | istore k =>
    simp only [zstep] at h
    split at h
    · rename_i v S0
      split at h
      · rename_i L1 hv
        simp only [Option.some.injEq, Prod.mk.injEq] at h
        obtain ⟨rfl, rfl, rfl, rfl⟩ := h
        obtain ⟨x, rfl, hi, rfl⟩ := zist_some hv
        obtain ⟨v1, st1, rfl, hv1, hs1⟩ := zrs_cons hs
        obtain rfl : v1 = .int x := hv1
        obtain ⟨hn, lv, hl, hlv⟩ := hL
        exact lv_istore hx hb hd hl (by omega) rfl (fun ls1 h1 => kk _ _ _ _ hW hS (zLo_up hn hlv h1 rfl rfl) hs1)
      · cases h
    · cases h
  | istore_n k =>
    simp only [zstep] at h
    split at h
    · rename_i v S0
      split at h
      · rename_i L1 hv
        simp only [Option.some.injEq, Prod.mk.injEq] at h
        obtain ⟨rfl, rfl, rfl, rfl⟩ := h
        obtain ⟨x, rfl, hi, rfl⟩ := zist_some hv
        obtain ⟨v1, st1, rfl, hv1, hs1⟩ := zrs_cons hs
        obtain rfl : v1 = .int x := hv1
        obtain ⟨hn, lv, hl, hlv⟩ := hL
        exact lv_istore_n hx hb hd rfl hl (by omega) rfl (fun ls1 h1 => kk _ _ _ _ hW hS (zLo_up hn hlv h1 rfl rfl) hs1)
      · cases h
    · cases h
  | astore k =>
    simp only [zstep] at h
    split at h
    · rename_i v S0
      split at h
      · rename_i L1 hv
        simp only [Option.some.injEq, Prod.mk.injEq] at h
        obtain ⟨rfl, rfl, rfl, rfl⟩ := h
        obtain ⟨hi, rfl, hv2⟩ := zast_some hv
        obtain ⟨v1, st1, rfl, hv1, hs1⟩ := zrs_cons hs
        obtain ⟨hn, lv, hl, hlv⟩ := hL
        rcases hv2 with ⟨x, rfl⟩ | rfl | rfl
        · obtain ⟨h3, rfl⟩ := hv1
          exact lv_astore hx hb hd hl (by omega) rfl (fun ls1 h1 => kk _ _ _ _ hW hS (zLo_up hn hlv h1 ⟨h3, rfl⟩ rfl) hs1)
        · obtain rfl : v1 = .null := hv1
          exact lv_astoreN hx hb hd hl (by omega) rfl (fun ls1 h1 => kk _ _ _ _ hW hS (zLo_up hn hlv h1 rfl rfl) hs1)
        · obtain ⟨x, rfl⟩ : ∃ q : Nat, v1 = .ref q := hv1
          exact lv_astore hx hb hd hl (by omega) rfl (fun ls1 h1 => kk _ _ _ _ hW hS (zLo_up hn hlv h1 (show zrv ad M.1.length (.float 1) (.ref x) from ⟨x, rfl⟩) rfl) hs1)
      · cases h
    · cases h
  | astore_n k =>
    simp only [zstep] at h
    split at h
    · rename_i v S0
      split at h
      · rename_i L1 hv
        simp only [Option.some.injEq, Prod.mk.injEq] at h
        obtain ⟨rfl, rfl, rfl, rfl⟩ := h
        obtain ⟨hi, rfl, hv2⟩ := zast_some hv
        obtain ⟨v1, st1, rfl, hv1, hs1⟩ := zrs_cons hs
        obtain ⟨hn, lv, hl, hlv⟩ := hL
        rcases hv2 with ⟨x, rfl⟩ | rfl | rfl
        · obtain ⟨h3, rfl⟩ := hv1
          exact lv_astore_n hx hb hd rfl hl (by omega) rfl (fun ls1 h1 => kk _ _ _ _ hW hS (zLo_up hn hlv h1 ⟨h3, rfl⟩ rfl) hs1)
        · obtain rfl : v1 = .null := hv1
          exact lv_astore_nN hx hb hd rfl hl (by omega) rfl (fun ls1 h1 => kk _ _ _ _ hW hS (zLo_up hn hlv h1 rfl rfl) hs1)
        · obtain ⟨x, rfl⟩ : ∃ q : Nat, v1 = .ref q := hv1
          exact lv_astore_n hx hb hd rfl hl (by omega) rfl (fun ls1 h1 => kk _ _ _ _ hW hS (zLo_up hn hlv h1 (show zrv ad M.1.length (.float 1) (.ref x) from ⟨x, rfl⟩) rfl) hs1)
      · cases h
    · cases h
  | iinc i k =>
    simp only [zstep] at h
    split at h
    · rename_i x hx1
      simp only [Option.some.injEq, Prod.mk.injEq] at h
      obtain ⟨rfl, rfl, rfl, rfl⟩ := h
      obtain ⟨hn, lv, hl, hlv⟩ := hL
      rcases hlv i _ hx1 with h1 | ⟨v, h1, h2, h3⟩
      · cases h1
      · obtain rfl : v = .int x := h2
        obtain ⟨j, hj⟩ := List.getElem?_of_mem h1
        exact lv_iinc hx hb hd hl hj rfl (by have := zlt hx1; omega) rfl (fun ls1 h4 => kk _ _ _ _ hW hS (zLo_up hn hlv h4 rfl rfl) hs)
    · cases h
  | iadd =>
    simp only [zstep] at h
    split at h
    · rename_i y x S0
      simp only [Option.some.injEq, Prod.mk.injEq] at h
      obtain ⟨rfl, rfl, rfl, rfl⟩ := h
      obtain ⟨v1, st1, rfl, hv1, hs1⟩ := zrs_cons hs
      obtain ⟨v2, st2, rfl, hv2, hs2⟩ := zrs_cons hs1
      obtain rfl : v1 = .int y := hv1
      obtain rfl : v2 = .int x := hv2
      exact lv_iadd hx hb hd (kk _ _ _ _ hW hS hL ⟨rfl, hs2⟩)
    · cases h
  | isub =>
    simp only [zstep] at h
    split at h
    · rename_i y x S0
      simp only [Option.some.injEq, Prod.mk.injEq] at h
      obtain ⟨rfl, rfl, rfl, rfl⟩ := h
      obtain ⟨v1, st1, rfl, hv1, hs1⟩ := zrs_cons hs
      obtain ⟨v2, st2, rfl, hv2, hs2⟩ := zrs_cons hs1
      obtain rfl : v1 = .int y := hv1
      obtain rfl : v2 = .int x := hv2
      exact lv_isub hx hb hd (kk _ _ _ _ hW hS hL ⟨rfl, hs2⟩)
    · cases h
  | imul =>
    simp only [zstep] at h
    split at h
    · rename_i y x S0
      simp only [Option.some.injEq, Prod.mk.injEq] at h
      obtain ⟨rfl, rfl, rfl, rfl⟩ := h
      obtain ⟨v1, st1, rfl, hv1, hs1⟩ := zrs_cons hs
      obtain ⟨v2, st2, rfl, hv2, hs2⟩ := zrs_cons hs1
      obtain rfl : v1 = .int y := hv1
      obtain rfl : v2 = .int x := hv2
      exact lv_imul hx hb hd (kk _ _ _ _ hW hS hL ⟨rfl, hs2⟩)
    · cases h
  | iand =>
    simp only [zstep] at h
    split at h
    · rename_i y x S0
      simp only [Option.some.injEq, Prod.mk.injEq] at h
      obtain ⟨rfl, rfl, rfl, rfl⟩ := h
      obtain ⟨v1, st1, rfl, hv1, hs1⟩ := zrs_cons hs
      obtain ⟨v2, st2, rfl, hv2, hs2⟩ := zrs_cons hs1
      obtain rfl : v1 = .int y := hv1
      obtain rfl : v2 = .int x := hv2
      exact lv_iand hx hb hd (kk _ _ _ _ hW hS hL ⟨rfl, hs2⟩)
    · cases h
  | ior =>
    simp only [zstep] at h
    split at h
    · rename_i y x S0
      simp only [Option.some.injEq, Prod.mk.injEq] at h
      obtain ⟨rfl, rfl, rfl, rfl⟩ := h
      obtain ⟨v1, st1, rfl, hv1, hs1⟩ := zrs_cons hs
      obtain ⟨v2, st2, rfl, hv2, hs2⟩ := zrs_cons hs1
      obtain rfl : v1 = .int y := hv1
      obtain rfl : v2 = .int x := hv2
      exact lv_ior hx hb hd (kk _ _ _ _ hW hS hL ⟨rfl, hs2⟩)
    · cases h
  | ixor =>
    simp only [zstep] at h
    split at h
    · rename_i y x S0
      simp only [Option.some.injEq, Prod.mk.injEq] at h
      obtain ⟨rfl, rfl, rfl, rfl⟩ := h
      obtain ⟨v1, st1, rfl, hv1, hs1⟩ := zrs_cons hs
      obtain ⟨v2, st2, rfl, hv2, hs2⟩ := zrs_cons hs1
      obtain rfl : v1 = .int y := hv1
      obtain rfl : v2 = .int x := hv2
      exact lv_ixor hx hb hd (kk _ _ _ _ hW hS hL ⟨rfl, hs2⟩)
    · cases h
  | ishl =>
    simp only [zstep] at h
    split at h
    · rename_i y x S0
      simp only [Option.some.injEq, Prod.mk.injEq] at h
      obtain ⟨rfl, rfl, rfl, rfl⟩ := h
      obtain ⟨v1, st1, rfl, hv1, hs1⟩ := zrs_cons hs
      obtain ⟨v2, st2, rfl, hv2, hs2⟩ := zrs_cons hs1
      obtain rfl : v1 = .int y := hv1
      obtain rfl : v2 = .int x := hv2
      exact lv_ishl hx hb hd (kk _ _ _ _ hW hS hL ⟨rfl, hs2⟩)
    · cases h
  | ishr =>
    simp only [zstep] at h
    split at h
    · rename_i y x S0
      simp only [Option.some.injEq, Prod.mk.injEq] at h
      obtain ⟨rfl, rfl, rfl, rfl⟩ := h
      obtain ⟨v1, st1, rfl, hv1, hs1⟩ := zrs_cons hs
      obtain ⟨v2, st2, rfl, hv2, hs2⟩ := zrs_cons hs1
      obtain rfl : v1 = .int y := hv1
      obtain rfl : v2 = .int x := hv2
      exact lv_ishr hx hb hd (kk _ _ _ _ hW hS hL ⟨rfl, hs2⟩)
    · cases h
  | iushr =>
    simp only [zstep] at h
    split at h
    · rename_i y x S0
      simp only [Option.some.injEq, Prod.mk.injEq] at h
      obtain ⟨rfl, rfl, rfl, rfl⟩ := h
      obtain ⟨v1, st1, rfl, hv1, hs1⟩ := zrs_cons hs
      obtain ⟨v2, st2, rfl, hv2, hs2⟩ := zrs_cons hs1
      obtain rfl : v1 = .int y := hv1
      obtain rfl : v2 = .int x := hv2
      exact lv_iushr hx hb hd rfl (kk _ _ _ _ hW hS hL ⟨rfl, hs2⟩)
    · cases h
  | idiv =>
    simp only [zstep] at h
    split at h
    · rename_i y x S0
      split at h
      · cases h
      · rename_i hy
        simp only [Option.some.injEq, Prod.mk.injEq] at h
        obtain ⟨rfl, rfl, rfl, rfl⟩ := h
        obtain ⟨v1, st1, rfl, hv1, hs1⟩ := zrs_cons hs
        obtain ⟨v2, st2, rfl, hv2, hs2⟩ := zrs_cons hs1
        obtain rfl : v1 = .int y := hv1
        obtain rfl : v2 = .int x := hv2
        exact lv_idiv hx hb hd hy (kk _ _ _ _ hW hS hL ⟨rfl, hs2⟩)
    · cases h
  | irem =>
    simp only [zstep] at h
    split at h
    · rename_i y x S0
      split at h
      · cases h
      · rename_i hy
        simp only [Option.some.injEq, Prod.mk.injEq] at h
        obtain ⟨rfl, rfl, rfl, rfl⟩ := h
        obtain ⟨v1, st1, rfl, hv1, hs1⟩ := zrs_cons hs
        obtain ⟨v2, st2, rfl, hv2, hs2⟩ := zrs_cons hs1
        obtain rfl : v1 = .int y := hv1
        obtain rfl : v2 = .int x := hv2
        exact lv_irem hx hb hd hy (kk _ _ _ _ hW hS hL ⟨rfl, hs2⟩)
    · cases h
  | ineg =>
    simp only [zstep] at h
    split at h
    · rename_i x S0
      simp only [Option.some.injEq, Prod.mk.injEq] at h
      obtain ⟨rfl, rfl, rfl, rfl⟩ := h
      obtain ⟨v1, st1, rfl, hv1, hs1⟩ := zrs_cons hs
      obtain rfl : v1 = .int x := hv1
      exact lv_ineg hx hb hd (kk _ _ _ _ hW hS hL ⟨rfl, hs1⟩)
    · cases h
  | i2l =>
    simp only [zstep] at h
    split at h
    · rename_i x S0
      simp only [Option.some.injEq, Prod.mk.injEq] at h
      obtain ⟨rfl, rfl, rfl, rfl⟩ := h
      obtain ⟨v1, st1, rfl, hv1, hs1⟩ := zrs_cons hs
      obtain rfl : v1 = .int x := hv1
      exact lv_i2l hx hb hd rfl (kk _ _ _ _ hW hS hL ⟨rfl, hs1⟩)
    · cases h
  | i2c =>
    simp only [zstep] at h
    split at h
    · rename_i x S0
      simp only [Option.some.injEq, Prod.mk.injEq] at h
      obtain ⟨rfl, rfl, rfl, rfl⟩ := h
      obtain ⟨v1, st1, rfl, hv1, hs1⟩ := zrs_cons hs
      obtain rfl : v1 = .int x := hv1
      exact lv_i2c hx hb hd rfl (kk _ _ _ _ hW hS hL ⟨rfl, hs1⟩)
    · cases h
  | lcmp =>
    simp only [zstep] at h
    split at h
    · rename_i y x S0
      simp only [Option.some.injEq, Prod.mk.injEq] at h
      obtain ⟨rfl, rfl, rfl, rfl⟩ := h
      obtain ⟨v1, st1, rfl, hv1, hs1⟩ := zrs_cons hs
      obtain ⟨v2, st2, rfl, hv2, hs2⟩ := zrs_cons hs1
      obtain rfl : v1 = .long y := hv1
      obtain rfl : v2 = .long x := hv2
      exact W.lcmp hx hb hd (kk _ _ _ _ hW hS hL ⟨rfl, hs2⟩)
    · cases h
  | dup =>
    simp only [zstep] at h
    split at h
    · rename_i v S0
      split at h
      · rename_i hc
        simp only [Option.some.injEq, Prod.mk.injEq] at h
        obtain ⟨rfl, rfl, rfl, rfl⟩ := h
        obtain ⟨v1, st1, rfl, hv1, hs1⟩ := zrs_cons hs
        exact lv_dup hx hb hd ((zrv_cat hv1).trans hc) (kk _ _ _ _ hW hS hL ⟨hv1, hv1, hs1⟩)
      · cases h
    · cases h
  | dup2 =>
    simp only [zstep] at h
    split at h
    · rename_i v w2 S0
      split at h
      · rename_i hc
        simp only [Option.some.injEq, Prod.mk.injEq] at h
        obtain ⟨rfl, rfl, rfl, rfl⟩ := h
        obtain ⟨v1, st1, rfl, hv1, hs1⟩ := zrs_cons hs
        obtain ⟨v2, st2, rfl, hv2, hs2⟩ := zrs_cons hs1
        exact lv_dup2_11 hx hb hd ((zrv_cat hv1).trans hc.1) ((zrv_cat hv2).trans hc.2) (kk _ _ _ _ hW hS hL ⟨hv1, hv2, hv1, hv2, hs2⟩)
      · cases h
    · cases h
  | pop =>
    simp only [zstep] at h
    split at h
    · rename_i v S0
      split at h
      · rename_i hc
        simp only [Option.some.injEq, Prod.mk.injEq] at h
        obtain ⟨rfl, rfl, rfl, rfl⟩ := h
        obtain ⟨v1, st1, rfl, hv1, hs1⟩ := zrs_cons hs
        exact lv_pop hx hb hd ((zrv_cat hv1).trans hc) (kk _ _ _ _ hW hS hL hs1)
      · cases h
    · cases h
  | goto off =>
    simp only [zokS, decide_eq_true_eq] at ho
    simp only [zstep] at h
    simp only [Option.some.injEq, Prod.mk.injEq] at h
    obtain ⟨rfl, rfl, rfl, rfl⟩ := h
    exact lv_goto hx hb hd ho (kk _ _ _ _ hW hS hL hs)
  | ifCond cd off =>
    simp only [zokS, decide_eq_true_eq] at ho
    simp only [zstep] at h
    split at h
    · rename_i x S0
      obtain ⟨v1, st1, rfl, hv1, hs1⟩ := zrs_cons hs
      obtain rfl : v1 = .int x := hv1
      cases cd with
        | eq =>
          refine lv_if_eq hx hb hd ho (fun hc => ?_) (fun hc => ?_)
          · simp only [zifc, if_pos hc, Option.some.injEq, Prod.mk.injEq] at h
            obtain ⟨rfl, rfl, rfl, rfl⟩ := h
            exact kk _ _ _ _ hW hS hL hs1
          · simp only [zifc, if_neg hc, Option.some.injEq, Prod.mk.injEq] at h
            obtain ⟨rfl, rfl, rfl, rfl⟩ := h
            exact kk _ _ _ _ hW hS hL hs1
        | ne =>
          refine lv_if_ne hx hb hd ho (fun hc => ?_) (fun hc => ?_)
          · simp only [zifc, if_neg hc, Option.some.injEq, Prod.mk.injEq] at h
            obtain ⟨rfl, rfl, rfl, rfl⟩ := h
            exact kk _ _ _ _ hW hS hL hs1
          · simp only [zifc, if_pos hc, Option.some.injEq, Prod.mk.injEq] at h
            obtain ⟨rfl, rfl, rfl, rfl⟩ := h
            exact kk _ _ _ _ hW hS hL hs1
        | lt =>
          refine lv_if_lt hx hb hd ho (fun hc => ?_) (fun hc => ?_)
          · simp only [zifc, if_pos hc, Option.some.injEq, Prod.mk.injEq] at h
            obtain ⟨rfl, rfl, rfl, rfl⟩ := h
            exact kk _ _ _ _ hW hS hL hs1
          · simp only [zifc, if_neg hc, Option.some.injEq, Prod.mk.injEq] at h
            obtain ⟨rfl, rfl, rfl, rfl⟩ := h
            exact kk _ _ _ _ hW hS hL hs1
        | ge =>
          refine lv_if_ge hx hb hd ho (fun hc => ?_) (fun hc => ?_)
          · simp only [zifc, if_pos hc, Option.some.injEq, Prod.mk.injEq] at h
            obtain ⟨rfl, rfl, rfl, rfl⟩ := h
            exact kk _ _ _ _ hW hS hL hs1
          · simp only [zifc, if_neg hc, Option.some.injEq, Prod.mk.injEq] at h
            obtain ⟨rfl, rfl, rfl, rfl⟩ := h
            exact kk _ _ _ _ hW hS hL hs1
        | gt =>
          refine lv_if_gt hx hb hd ho (fun hc => ?_) (fun hc => ?_)
          · simp only [zifc, if_pos hc, Option.some.injEq, Prod.mk.injEq] at h
            obtain ⟨rfl, rfl, rfl, rfl⟩ := h
            exact kk _ _ _ _ hW hS hL hs1
          · simp only [zifc, if_neg hc, Option.some.injEq, Prod.mk.injEq] at h
            obtain ⟨rfl, rfl, rfl, rfl⟩ := h
            exact kk _ _ _ _ hW hS hL hs1
        | le =>
          refine lv_if_le hx hb hd ho (fun hc => ?_) (fun hc => ?_)
          · simp only [zifc, if_pos hc, Option.some.injEq, Prod.mk.injEq] at h
            obtain ⟨rfl, rfl, rfl, rfl⟩ := h
            exact kk _ _ _ _ hW hS hL hs1
          · simp only [zifc, if_neg hc, Option.some.injEq, Prod.mk.injEq] at h
            obtain ⟨rfl, rfl, rfl, rfl⟩ := h
            exact kk _ _ _ _ hW hS hL hs1
    · cases h
  | if_icmp cd off =>
    simp only [zokS, decide_eq_true_eq] at ho
    simp only [zstep] at h
    split at h
    · rename_i y x S0
      obtain ⟨v1, st1, rfl, hv1, hs1⟩ := zrs_cons hs
      obtain ⟨v2, st2, rfl, hv2, hs2⟩ := zrs_cons hs1
      obtain rfl : v1 = .int y := hv1
      obtain rfl : v2 = .int x := hv2
      cases cd with
        | eq =>
          refine lv_icmp_eq hx hb hd ho (fun hc => ?_) (fun hc => ?_)
          · simp only [zifc, if_pos hc, Option.some.injEq, Prod.mk.injEq] at h
            obtain ⟨rfl, rfl, rfl, rfl⟩ := h
            exact kk _ _ _ _ hW hS hL hs2
          · simp only [zifc, if_neg hc, Option.some.injEq, Prod.mk.injEq] at h
            obtain ⟨rfl, rfl, rfl, rfl⟩ := h
            exact kk _ _ _ _ hW hS hL hs2
        | ne =>
          refine lv_icmp_ne hx hb hd ho (fun hc => ?_) (fun hc => ?_)
          · simp only [zifc, if_neg hc, Option.some.injEq, Prod.mk.injEq] at h
            obtain ⟨rfl, rfl, rfl, rfl⟩ := h
            exact kk _ _ _ _ hW hS hL hs2
          · simp only [zifc, if_pos hc, Option.some.injEq, Prod.mk.injEq] at h
            obtain ⟨rfl, rfl, rfl, rfl⟩ := h
            exact kk _ _ _ _ hW hS hL hs2
        | lt =>
          refine lv_icmp_lt hx hb hd ho (fun hc => ?_) (fun hc => ?_)
          · simp only [zifc, if_pos hc, Option.some.injEq, Prod.mk.injEq] at h
            obtain ⟨rfl, rfl, rfl, rfl⟩ := h
            exact kk _ _ _ _ hW hS hL hs2
          · simp only [zifc, if_neg hc, Option.some.injEq, Prod.mk.injEq] at h
            obtain ⟨rfl, rfl, rfl, rfl⟩ := h
            exact kk _ _ _ _ hW hS hL hs2
        | ge =>
          refine lv_icmp_ge hx hb hd ho (fun hc => ?_) (fun hc => ?_)
          · simp only [zifc, if_pos hc, Option.some.injEq, Prod.mk.injEq] at h
            obtain ⟨rfl, rfl, rfl, rfl⟩ := h
            exact kk _ _ _ _ hW hS hL hs2
          · simp only [zifc, if_neg hc, Option.some.injEq, Prod.mk.injEq] at h
            obtain ⟨rfl, rfl, rfl, rfl⟩ := h
            exact kk _ _ _ _ hW hS hL hs2
        | gt =>
          refine lv_icmp_gt hx hb hd ho (fun hc => ?_) (fun hc => ?_)
          · simp only [zifc, if_pos hc, Option.some.injEq, Prod.mk.injEq] at h
            obtain ⟨rfl, rfl, rfl, rfl⟩ := h
            exact kk _ _ _ _ hW hS hL hs2
          · simp only [zifc, if_neg hc, Option.some.injEq, Prod.mk.injEq] at h
            obtain ⟨rfl, rfl, rfl, rfl⟩ := h
            exact kk _ _ _ _ hW hS hL hs2
        | le =>
          refine lv_icmp_le hx hb hd ho (fun hc => ?_) (fun hc => ?_)
          · simp only [zifc, if_pos hc, Option.some.injEq, Prod.mk.injEq] at h
            obtain ⟨rfl, rfl, rfl, rfl⟩ := h
            exact kk _ _ _ _ hW hS hL hs2
          · simp only [zifc, if_neg hc, Option.some.injEq, Prod.mk.injEq] at h
            obtain ⟨rfl, rfl, rfl, rfl⟩ := h
            exact kk _ _ _ _ hW hS hL hs2
    · cases h
  | ifnull off =>
    simp only [zokS, decide_eq_true_eq] at ho
    simp only [zstep] at h
    split at h
    · rename_i S0
      simp only [Option.some.injEq, Prod.mk.injEq] at h
      obtain ⟨rfl, rfl, rfl, rfl⟩ := h
      obtain ⟨v1, st1, rfl, hv1, hs1⟩ := zrs_cons hs
      obtain rfl : v1 = .null := hv1
      exact lv_ifnullN hx hb hd ho (kk _ _ _ _ hW hS hL hs1)
    · rename_i x S0
      simp only [Option.some.injEq, Prod.mk.injEq] at h
      obtain ⟨rfl, rfl, rfl, rfl⟩ := h
      obtain ⟨v1, st1, rfl, hv1, hs1⟩ := zrs_cons hs
      obtain ⟨-, rfl⟩ := hv1
      exact lv_ifnull hx hb hd (kk _ _ _ _ hW hS hL hs1)
    · cases h
  | ifnonnull off =>
    simp only [zokS, decide_eq_true_eq] at ho
    simp only [zstep] at h
    split at h
    · rename_i S0
      simp only [Option.some.injEq, Prod.mk.injEq] at h
      obtain ⟨rfl, rfl, rfl, rfl⟩ := h
      obtain ⟨v1, st1, rfl, hv1, hs1⟩ := zrs_cons hs
      obtain rfl : v1 = .null := hv1
      exact lv_ifnonnullN hx hb hd (kk _ _ _ _ hW hS hL hs1)
    · rename_i x S0
      simp only [Option.some.injEq, Prod.mk.injEq] at h
      obtain ⟨rfl, rfl, rfl, rfl⟩ := h
      obtain ⟨v1, st1, rfl, hv1, hs1⟩ := zrs_cons hs
      obtain ⟨-, rfl⟩ := hv1
      exact lv_ifnonnull hx hb hd ho (kk _ _ _ _ hW hS hL hs1)
    · cases h
  | tableswitch dflt lo hi offs =>
    simp only [zstep] at h
    split at h
    · rename_i x S0
      obtain ⟨v1, st1, rfl, hv1, hs1⟩ := zrs_cons hs
      obtain rfl : v1 = .int x := hv1
      split at h
      · rename_i hc
        split at h
        · rename_i ht
          simp only [Option.some.injEq, Prod.mk.injEq] at h
          obtain ⟨rfl, rfl, rfl, rfl⟩ := h
          exact lv_tableOut hx hb hd hc (by omega) (kk _ _ _ _ hW hS hL hs1)
        · cases h
      · rename_i hc
        split at h
        · rename_i off hoff
          split at h
          · rename_i ht
            simp only [Option.some.injEq, Prod.mk.injEq] at h
            obtain ⟨rfl, rfl, rfl, rfl⟩ := h
            exact lv_tableIn hx hb hd (fun q => hc (Or.inl q)) (fun q => hc (Or.inr q)) hoff (by omega) (kk _ _ _ _ hW hS hL hs1)
          · cases h
        · cases h
    · cases h
  | getfield k =>
    simp only [zstep] at h
    split at h
    · rename_i q S0
      split at h
      · rename_i v hv
        simp only [Option.some.injEq, Prod.mk.injEq] at h
        obtain ⟨rfl, rfl, rfl, rfl⟩ := h
        obtain ⟨v1, st1, rfl, hv1, hs1⟩ := zrs_cons hs
        obtain ⟨hq, rfl⟩ := hv1
        rcases zget_spec hv with ⟨ha, t, cc, ht, h1, hc, rfl⟩ | ⟨ha, hr1, hr2, h5⟩
        · simp only [zokS, if_pos ha, zokF] at ho
          split at ho
          · rename_i cl hcl
            simp only [Bool.and_eq_true, decide_eq_true_eq] at ho
            obtain ⟨hk, ho⟩ := ho
            obtain ⟨hin, hty, hnmx⟩ := zcl_ok _ _ hcl
            have he := zWs_get (ad := ad) (κ := κ) ht
            rw [zE_obj h1] at he
            have hf : (t.2.2.mapIdx (fun j c => zcv ad (zval c (M.2.1 q j))))[b1]? = some (zcv ad (zval cc (M.2.1 q b1))) := by rw [List.getElem?_mapIdx, hc]; rfl
            have hrv : zrv ad M.1.length (zval cc (M.2.1 q b1)) (zcv ad (zval cc (M.2.1 q b1))) := zval_rv ((hW.2.2.2.1 q t ht).2 cc (List.mem_of_getElem? hc))
            split at ho
            · exact va_get hx hb hts hin hown hW.1 hW.2.1 q he hcl b1 hk (hts _ (zIn_mem ho)) (fun _ h9 => h9) hf hd (kk _ _ _ _ hW hS hL ⟨hrv, hs1⟩)
            · exact va_getN hx hb hts hin hown hW.1 hW.2.1 q he hcl b1 hk ((hst.1 _ (zInB_mem ho)).use rfl) (fun _ h9 => h9) hf hd (kk _ _ _ _ hW hS hL ⟨hrv, hs1⟩)
          · cases ho
        · simp only [zokS, if_neg ha] at ho
          have hz : zStrN = 7 := rfl
          have had : ad q = adK (q - 2000000) := by
            rw [hW.2.2.2.2.1 _ (by omega)]
            unfold zsp
            rw [if_neg (by omega), if_pos (by omega)]
          obtain ⟨hO, hco, hva, hT⟩ := hst.2.2.1.1 (q - 2000000) (by omega)
          rw [had]
          rcases h5 with ⟨h5, rfl⟩ | ⟨h5, rfl⟩
          · rw [if_pos h5] at ho
            have had2 : ad (q + 1000000) = adV (q - 2000000) := by
              rw [hW.2.2.2.2.1 _ (by omega)]
              unfold zsp
              rw [if_neg (by omega), if_neg (by omega)]
              exact congrArg adV (by omega)
            have hge : 1000000 ≤ q + 1000000 := Nat.le_add_left 1000000 q
            exact vk_getf hx hb hva hS hown (hts _ (zIn_mem ho)) (fun _ h9 => h9) hd (kk _ _ _ _ hW hS hL ⟨⟨Or.inr hge, by rw [had2]⟩, hs1⟩)
          · rw [if_neg h5] at ho
            exact vk_getf hx hb hco hS hown (hts _ (zIn_mem ho)) (fun _ h9 => h9) hd (kk _ _ _ _ hW hS hL ⟨rfl, hs1⟩)
      · cases h
    · cases h
  | putfield k =>
    simp only [zstep] at h
    split at h
    · rename_i v q S0
      split at h
      · rename_i M1 hv
        simp only [Option.some.injEq, Prod.mk.injEq] at h
        obtain ⟨rfl, rfl, rfl, rfl⟩ := h
        obtain ⟨v1, st1, rfl, hv1, hs1⟩ := zrs_cons hs
        obtain ⟨v2, st2, rfl, hv2, hs2⟩ := zrs_cons hs1
        obtain ⟨hq, rfl⟩ := hv2
        obtain ⟨t, cc, ht, h1, hc, hv⟩ := zput_spec hv
        simp only [zokS, zokF, zokP, Bool.and_eq_true] at ho
        obtain ⟨ho1, ho2⟩ := ho
        split at ho1
        · rename_i cl hcl
          simp only [hcl] at ho2
          simp only [Bool.and_eq_true, decide_eq_true_eq] at ho1 ho2
          obtain ⟨hk, ho1⟩ := ho1
          obtain ⟨hfin, hty2⟩ := ho2
          obtain ⟨hin, hty, hnmx⟩ := zcl_ok _ _ hcl
          have he := zWs_get (ad := ad) (κ := κ) ht
          rw [zE_obj h1] at he
          have hlen : b1 < (t.2.2.mapIdx (fun j c => zcv ad (zval c (M.2.1 q j)))).length := by rw [List.length_mapIdx]; exact zlt hc
          have go : ∀ (v9 : Value), narrow (zty a b1) v9 = v9 → fits (zty a b1) v9 = true → (∀ (H1 : Heap) (locs1 : List Loc), va_P D vwCl ((zWs ad κ M).set q (ad q, .inr (a, (t.2.2.mapIdx (fun j c => zcv ad (zval c (M.2.1 q j)))).set b1 v9))) H1 → va_D (zA sz0) ((zWs ad κ M).set q (ad q, .inr (a, (t.2.2.mapIdx (fun j c => zcv ad (zval c (M.2.1 q j)))).set b1 v9))) → va_S (zA sz0) s.heap H1 locs1 →
              W p l e R s m args below meth c H1 locs1 cells slots Q (F0 m (pc + 3) ls st2)) → W p l e R s m args below meth c H locs cells slots Q (F0 m pc ls (v9 :: .ref (ad q) :: st2)) := by
            intro v9 hn hf kk9
            split at ho1
            · by_cases hfi : (cl.2.1 b1).2.2.2 = false
              · exact va_put hx hb hts hin (zty a) hty hnmx hown hW.1 hW.2.1 hW.2.2.1 hS q he hcl b1 hk (hts _ (zIn_mem ho1)) (fun _ h9 => h9) hfi (hty b1 hk) hn hf hlen hd kk9
              · have hfin : (((zRn r).name = "<init>" ∧ (cl.2.1 b1).1 = (zRn r).cls) ∧ c1 < 10) := by
                  simp only [Bool.or_eq_true, Bool.and_eq_true, decide_eq_true_eq] at hfin
                  rcases hfin with h9 | h9
                  · exact absurd h9 hfi
                  · exact h9
                exact va_putF hx hb hts hin (zty a) hty hnmx hown hW.1 hW.2.1 hW.2.2.1 hS q he hcl b1 hk (hts _ (zIn_mem ho1)) (fun _ h9 => h9) (by cases hz : (cl.2.1 b1).2.2.2 with | true => rfl | false => exact absurd hz hfi) ((hnm hfin.1.1).trans hfin.1.1) hfin.1.2 (hty b1 hk) hn hf hlen hd kk9
            · rename_i hc10
              have hfi : (cl.2.1 b1).2.2.2 = false := by
                simp only [Bool.or_eq_true, Bool.and_eq_true, decide_eq_true_eq] at hfin
                rcases hfin with hfin | hfin
                · exact hfin
                · exact absurd hfin.2 hc10
              exact va_putN hx hb hts hin (zty a) hty hnmx hown hW.1 hW.2.1 hW.2.2.1 hS q he hcl b1 hk ((hst.1 _ (zInB_mem ho1)).use rfl) (fun _ h9 => h9) hfi (hty b1 hk) hn hf hlen hd kk9
          rcases hv with ⟨x, rfl, rfl, hfl, rfl⟩ | ⟨a2, rfl, ha2, hfl, rfl⟩
          · obtain rfl : v1 = .int x := hv1
            have hset : (zWs ad κ M).set q (ad q, .inr (a, (t.2.2.mapIdx (fun j c => zcv ad (zval c (M.2.1 q j)))).set b1 (.int x))) = zWs ad κ (M.1, zset M.2.1 q b1 x, M.2.2) := by
              refine zWs_set (t' := t) ht (zset_self ht) (fun i hi => zset_ne _ _ _ hi) (fun i hi => rfl) ?_
              show zE ad (κ q) (zset M.2.1 q b1 x q) (M.2.2.1 q) t = _
              rw [zE_obj h1, zset_same]
              congr 2
              apply List.ext_getElem?
              intro j
              rw [List.getElem?_set, List.getElem?_mapIdx, List.getElem?_mapIdx, List.length_mapIdx]
              by_cases hj : b1 = j
              · subst hj
                rw [if_pos rfl, if_pos (zlt hc), hc]
                simp [zval, zcv]
              · have hj2 : j ≠ b1 := fun q => hj q.symm
                rw [if_neg hj]
                simp only [if_neg hj2]
            refine go (.int x) ?_ ?_ (fun H1 locs1 hP hD hS1 => ?_)
            · rcases hfl with hfl | ⟨hfl, hx2⟩
              · simp only [hfl, if_pos] at hty2
                rw [decide_eq_true_eq] at hty2
                rw [hty2]
                rfl
              · simp only [hfl] at hty2
                simp only [show ¬ (2 = 0) by decide, if_false, if_true, decide_eq_true_eq] at hty2
                rw [hty2]
                rcases hx2 with rfl | rfl <;> rfl
            · rcases hfl with hfl | ⟨hfl, hx2⟩
              · simp only [hfl, if_pos] at hty2
                rw [decide_eq_true_eq] at hty2
                rw [hty2]
                rfl
              · simp only [hfl] at hty2
                simp only [show ¬ (2 = 0) by decide, if_false, if_true, decide_eq_true_eq] at hty2
                rw [hty2]
                rcases hx2 with rfl | rfl <;> rfl
            · rw [hset] at hP hD
              exact kk _ _ _ _ (zWo_updS hW hP hD rfl rfl) hS1 hL hs2
          · obtain ⟨-, rfl⟩ := hv1
            have hset : (zWs ad κ M).set q (ad q, .inr (a, (t.2.2.mapIdx (fun j c => zcv ad (zval c (M.2.1 q j)))).set b1 (.ref (ad a2)))) = zWs ad κ (M.1.set q (t.1, t.2.1, t.2.2.set b1 (a2 + 2)), M.2) := by
              refine zWs_set (t' := (t.1, t.2.1, t.2.2.set b1 (a2 + 2))) ht rfl (fun i hi => rfl) (fun i hi => rfl) ?_
              rw [zE_obj (t := (t.1, t.2.1, t.2.2.set b1 (a2 + 2))) h1]
              congr 2
              apply List.ext_getElem?
              intro j
              rw [List.getElem?_set, List.getElem?_mapIdx, List.getElem?_mapIdx, List.length_mapIdx, List.getElem?_set]
              by_cases hj : b1 = j
              · subst hj
                rw [if_pos rfl, if_pos (zlt hc), if_pos rfl, if_pos (zlt hc)]
                simp [zval, zcv]
              · rw [if_neg hj, if_neg hj]
            refine go (.ref (ad a2)) ?_ ?_ (fun H1 locs1 hP hD hS1 => ?_)
            · simp only [hfl] at hty2
              simp only [show ¬ (3 = 0) by decide, show ¬ (3 = 2) by decide, if_false] at hty2
              cases hz : zty a b1 <;> simp only [hz, zRef] at hty2 <;> first | rfl | cases hty2
            · simp only [hfl] at hty2
              simp only [show ¬ (3 = 0) by decide, show ¬ (3 = 2) by decide, if_false] at hty2
              cases hz : zty a b1 <;> simp only [hz, zRef] at hty2 <;> first | rfl | cases hty2
            · rw [hset] at hP hD
              have hl2 : (M.1.set q (t.1, t.2.1, t.2.2.set b1 (a2 + 2))).length = M.1.length := List.length_set
              refine kk _ _ _ _ (zWo_upd hW hP hD hl2 (fun k9 t9 hk9 => ?_) rfl) hS1 (by show zLo ad (M.1.set q (t.1, t.2.1, t.2.2.set b1 (a2 + 2))).length _ _ _; rw [hl2]; exact hL) (by show zrs ad (M.1.set q (t.1, t.2.1, t.2.2.set b1 (a2 + 2))).length _ _; rw [hl2]; exact hs2)
              rw [List.getElem?_set] at hk9
              by_cases hq9 : q = k9
              · subst hq9
                rw [if_pos rfl, if_pos (zlt ht)] at hk9
                cases hk9
                refine ⟨t, ht, rfl, fun c9 hc9 => ?_⟩
                rcases List.mem_or_eq_of_mem_set hc9 with hc9 | rfl
                · exact (hW.2.2.2.1 q t ht).2 c9 hc9
                · omega
              · rw [if_neg hq9] at hk9
                exact ⟨t9, hk9, rfl, (hW.2.2.2.1 k9 t9 hk9).2⟩
        · cases ho1
      · cases h
    · cases h
  | getstatic k =>
    simp only [zstep] at h
    simp only [zokS] at ho
    split at h
    · rename_i ha
      rw [if_pos ha] at ho
      simp only [Option.some.injEq, Prod.mk.injEq] at h
      obtain ⟨rfl, rfl, rfl, rfl⟩ := h
      exact va_gets hx hb hst.2.2.2.1 hS hown (hts _ (zIn_mem ho)) (fun _ h9 => h9) hd (kk _ _ _ _ hW hS hL ⟨rfl, hs⟩)
    · rename_i ha
      rw [if_neg ha] at ho
      simp only [Option.some.injEq, Prod.mk.injEq] at h
      obtain ⟨rfl, rfl, rfl, rfl⟩ := h
      rcases hst.2.2.2.2.1 with hZ | ⟨t, hZ⟩
      · exact va_gets hx hb hZ hS hown (hts _ (zIn_mem ho)) (fun _ h9 => h9) hd (kk _ _ _ _ hW hS hL ⟨Or.inl rfl, hs⟩)
      · exact va_gets hx hb hZ hS hown (hts _ (zIn_mem ho)) (fun _ h9 => h9) hd (kk _ _ _ _ hW hS hL ⟨Or.inr ⟨t, rfl⟩, hs⟩)
  | iaload =>
    simp only [zstep] at h
    split at h
    · rename_i i1 q S0
      split at h
      · rename_i v hv
        simp only [Option.some.injEq, Prod.mk.injEq] at h
        obtain ⟨rfl, rfl, rfl, rfl⟩ := h
        obtain ⟨v1, st1, rfl, hv1, hs1⟩ := zrs_cons hs
        obtain ⟨v2, st2, rfl, hv2, hs2⟩ := zrs_cons hs1
        obtain rfl : v1 = .int i1 := hv1
        obtain ⟨hq, rfl⟩ := hv2
        rcases ziald_spec hv with ⟨rfl, hin, rfl⟩ | ⟨t, ht, h0, hin, rfl⟩
        · have had : ad 1000000 = b := by rw [hW.2.2.2.2.1 _ (by omega)]; unfold zsp; rw [if_pos (by omega)]
          have hsc := hW.2.2.2.2.2.2
          have hX := hst.2.2.2.2.2.2.2.2.2.1
          rw [had]
          rw [hsc] at hin
          exact va_sld hx hb hX (Nat.lt_of_lt_of_le hst.2.2.2.2.2.2.2.2.2.2.1 hst.2.2.2.2.2.2.2.2.2.2.2) (Nat.not_le.mpr hst.2.2.2.2.2.2.2.2.2.2.1) hS hin hd (kk _ _ _ _ hW hS hL ⟨by rw [hsc]; rfl, hs2⟩)
        · have he := zWs_get (ad := ad) (κ := κ) ht
          rw [zE_int h0] at he
          obtain ⟨t0, ht0⟩ := (hW.2.2.2.1 q t ht).1.1 h0
          exact va_iald hx hb hW.1 hW.2.1 q t0 he ht0 hin hd (kk _ _ _ _ hW hS hL ⟨rfl, hs2⟩)
      · cases h
    · cases h
  | laload =>
    simp only [zstep] at h
    split at h
    · rename_i i1 q S0
      split at h
      · rename_i v hv
        simp only [Option.some.injEq, Prod.mk.injEq] at h
        obtain ⟨rfl, rfl, rfl, rfl⟩ := h
        obtain ⟨v1, st1, rfl, hv1, hs1⟩ := zrs_cons hs
        obtain ⟨v2, st2, rfl, hv2, hs2⟩ := zrs_cons hs1
        obtain rfl : v1 = .int i1 := hv1
        obtain ⟨hq, rfl⟩ := hv2
        obtain ⟨t, ht, h0, hin, rfl⟩ := zlald_spec hv
        have he := zWs_get (ad := ad) (κ := κ) ht
        rw [zE_long h0] at he
        obtain ⟨t0, ht0⟩ := (hW.2.2.2.1 q t ht).1.2.1 h0
        exact va_lald hx hb hW.1 hW.2.1 q t0 he ht0 hin hd (kk _ _ _ _ hW hS hL ⟨rfl, hs2⟩)
      · cases h
    · cases h
  | baload =>
    simp only [zstep] at h
    split at h
    · rename_i i1 q S0
      split at h
      · rename_i v hv
        simp only [Option.some.injEq, Prod.mk.injEq] at h
        obtain ⟨rfl, rfl, rfl, rfl⟩ := h
        obtain ⟨v1, st1, rfl, hv1, hs1⟩ := zrs_cons hs
        obtain ⟨v2, st2, rfl, hv2, hs2⟩ := zrs_cons hs1
        obtain rfl : v1 = .int i1 := hv1
        obtain ⟨hq, rfl⟩ := hv2
        obtain ⟨hr1, hr2, hin, rfl⟩ := zbald_spec hv
        have hz : zStrN = 7 := rfl
        have had : ad q = adV (q - 3000000) := by
          rw [hW.2.2.2.2.1 _ (by omega)]
          unfold zsp
          rw [if_neg (by omega), if_neg (by omega)]
        obtain ⟨hO, hco, hva, hT⟩ := hst.2.2.1.1 (q - 3000000) (by omega)
        rw [had]
        exact va_tb hx hb hT hS (by rw [zstrlen]; exact hin) rfl hd (kk _ _ _ _ hW hS hL ⟨rfl, hs2⟩)
      · cases h
    · cases h
  | aaload =>
    simp only [zstep] at h
    split at h
    · rename_i i1 q S0
      split at h
      · rename_i v hv
        simp only [Option.some.injEq, Prod.mk.injEq] at h
        obtain ⟨rfl, rfl, rfl, rfl⟩ := h
        obtain ⟨v1, st1, rfl, hv1, hs1⟩ := zrs_cons hs
        obtain ⟨v2, st2, rfl, hv2, hs2⟩ := zrs_cons hs1
        obtain rfl : v1 = .int i1 := hv1
        obtain ⟨hq, rfl⟩ := hv2
        obtain ⟨t, n, ht, h0, h00, hin, hn, rfl⟩ := zaald_spec hv
        have he := zWs_get (ad := ad) (κ := κ) ht
        rw [zE_ref h0 h00] at he
        obtain ⟨t0, cl, hcl, ht0⟩ := (hW.2.2.2.1 q t ht).1.2.2 h0 h00
        refine va_aldq hx hb hW.1 hW.2.1 q t0 he ht0 hin hd ?_
        rw [hn]
        have hlt2 := (hW.2.2.2.1 q t ht).2 _ (List.mem_of_getElem? hn)
        cases n with
        | zero => exact kk _ _ _ _ hW hS hL ⟨rfl, hs2⟩
        | succ n =>
          have hn2 : n < M.1.length := by omega
          exact kk _ _ _ _ hW hS hL ⟨⟨Or.inl hn2, rfl⟩, hs2⟩
      · cases h
    · cases h
  | iastore =>
    simp only [zstep] at h
    split at h
    · rename_i x i1 q S0
      split at h
      · rename_i M1 hv
        simp only [Option.some.injEq, Prod.mk.injEq] at h
        obtain ⟨rfl, rfl, rfl, rfl⟩ := h
        obtain ⟨v1, st1, rfl, hv1, hs1⟩ := zrs_cons hs
        obtain ⟨v2, st2, rfl, hv2, hs2⟩ := zrs_cons hs1
        obtain ⟨v3, st3, rfl, hv3, hs3⟩ := zrs_cons hs2
        obtain rfl : v2 = .int i1 := hv2
        obtain ⟨hq, rfl⟩ := hv3
        obtain rfl : v1 = .int x := hv1
        obtain ⟨t, ht, h0, hin, rfl⟩ := ziast_spec hv
        have he := zWs_get (ad := ad) (κ := κ) ht
        rw [zE_int h0] at he
        obtain ⟨t0, ht0⟩ := (hW.2.2.2.1 q t ht).1.1 h0
        refine va_iast hx hb hW.1 hW.2.1 hW.2.2.1 hS q t0 he ht0 hin hd (fun H1 locs1 hP hD hS1 => ?_)
        have hset : (zWs ad κ M).set q (ad q, .inl (κ q, t.2.1, .inl (upd (M.2.1 q) i1.toNatClampNeg x))) = zWs ad κ (M.1, zset M.2.1 q i1.toNatClampNeg x, M.2.2) := by
          refine zWs_set (t' := t) ht (zset_self ht) (fun i hi => zset_ne _ _ _ hi) (fun i hi => rfl) ?_
          show zE ad (κ q) (zset M.2.1 q i1.toNatClampNeg x q) (M.2.2.1 q) t = _
          rw [zE_int h0, zset_same]
          rfl
        rw [hset] at hP hD
        exact kk _ _ _ _ (zWo_updS hW hP hD rfl rfl) hS1 hL hs3
      · cases h
    · cases h
  | lastore =>
    simp only [zstep] at h
    split at h
    · rename_i x i1 q S0
      split at h
      · rename_i M1 hv
        simp only [Option.some.injEq, Prod.mk.injEq] at h
        obtain ⟨rfl, rfl, rfl, rfl⟩ := h
        obtain ⟨v1, st1, rfl, hv1, hs1⟩ := zrs_cons hs
        obtain ⟨v2, st2, rfl, hv2, hs2⟩ := zrs_cons hs1
        obtain ⟨v3, st3, rfl, hv3, hs3⟩ := zrs_cons hs2
        obtain rfl : v2 = .int i1 := hv2
        obtain ⟨hq, rfl⟩ := hv3
        obtain rfl : v1 = .long x := hv1
        obtain ⟨t, ht, h0, hin, rfl⟩ := zlast_spec hv
        have he := zWs_get (ad := ad) (κ := κ) ht
        rw [zE_long h0] at he
        obtain ⟨t0, ht0⟩ := (hW.2.2.2.1 q t ht).1.2.1 h0
        refine va_last hx hb hW.1 hW.2.1 hW.2.2.1 hS q t0 he ht0 hin hd (fun H1 locs1 hP hD hS1 => ?_)
        have hset : (zWs ad κ M).set q (ad q, .inl (κ q, t.2.1, .inr (.inl (vp_updL (M.2.2.1 q) i1.toNatClampNeg x)))) = zWs ad κ (M.1, M.2.1, zset M.2.2.1 q i1.toNatClampNeg x, M.2.2.2) := by
          refine zWs_set (t' := t) ht (zset_self ht) (fun i hi => rfl) (fun i hi => zset_ne _ _ _ hi) ?_
          show zE ad (κ q) (M.2.1 q) (zset M.2.2.1 q i1.toNatClampNeg x q) t = _
          rw [zE_long h0, zset_same]
          rfl
        rw [hset] at hP hD
        exact kk _ _ _ _ (zWo_updS hW hP hD rfl rfl) hS1 hL hs3
      · cases h
    · cases h
  | aastore =>
    simp only [zstep] at h
    split at h
    · rename_i x i1 q S0
      split at h
      · rename_i M1 hv
        simp only [Option.some.injEq, Prod.mk.injEq] at h
        obtain ⟨rfl, rfl, rfl, rfl⟩ := h
        obtain ⟨v1, st1, rfl, hv1, hs1⟩ := zrs_cons hs
        obtain ⟨v2, st2, rfl, hv2, hs2⟩ := zrs_cons hs1
        obtain ⟨v3, st3, rfl, hv3, hs3⟩ := zrs_cons hs2
        obtain rfl : v2 = .int i1 := hv2
        obtain ⟨hq, rfl⟩ := hv3
        obtain ⟨hx2, rfl⟩ := hv1
        obtain ⟨t, u, ht, h0, h00, hin, hu, hu1, hi1, rfl⟩ := zaast_spec hv
        have he := zWs_get (ad := ad) (κ := κ) ht
        rw [zE_ref h0 h00] at he
        obtain ⟨t0, cl, hcl, ht0⟩ := (hW.2.2.2.1 q t ht).1.2.2 h0 h00
        have he2 := zWs_get (ad := ad) (κ := κ) hu
        rw [zE_obj (ci := t.1 - 10) (by omega)] at he2
        refine va_astq hx hb hW.1 hW.2.1 hW.2.2.1 hS q t0 x (t.1 - 10) he ht0 he2 hcl hin hd (fun H1 locs1 hP hD hS1 => ?_)
        have hset : (zWs ad κ M).set q (ad q, .inl (κ q, t.2.1, .inr (.inr (.inr (.inr (va_up (fun j => zrq ad t.2.2[j]?) i1.toNatClampNeg (some (ad x)))))))) = zWs ad κ (M.1.set q (t.1, t.2.1, t.2.2.set i1.toNatClampNeg (x + 2)), M.2) := by
          refine zWs_set (t' := (t.1, t.2.1, t.2.2.set i1.toNatClampNeg (x + 2))) ht rfl (fun i hi => rfl) (fun i hi => rfl) ?_
          rw [zE_ref (t := (t.1, t.2.1, t.2.2.set i1.toNatClampNeg (x + 2))) h0 h00]
          refine congrArg (fun z => (Sum.inl (κ q, t.2.1, Sum.inr (Sum.inr (Sum.inr (Sum.inr z)))) : va_E)) ?_
          funext j
          show zrq ad (t.2.2.set i1.toNatClampNeg (x + 2))[j]? = _
          rw [List.getElem?_set]
          unfold va_up
          by_cases hj : i1.toNatClampNeg = j
          · subst hj
            rw [if_pos rfl, if_pos hi1, if_pos rfl]
            rfl
          · rw [if_neg hj, if_neg (fun q => hj q.symm)]
        rw [hset] at hP hD
        have hl2 : (M.1.set q (t.1, t.2.1, t.2.2.set i1.toNatClampNeg (x + 2))).length = M.1.length := List.length_set
        have hxl : x < M.1.length := zlt hu
        refine kk _ _ _ _ (zWo_upd hW hP hD hl2 (fun k9 t9 hk9 => ?_) rfl) hS1 (by show zLo ad (M.1.set q (t.1, t.2.1, t.2.2.set i1.toNatClampNeg (x + 2))).length _ _ _; rw [hl2]; exact hL) (by show zrs ad (M.1.set q (t.1, t.2.1, t.2.2.set i1.toNatClampNeg (x + 2))).length _ _; rw [hl2]; exact hs3)
        rw [List.getElem?_set] at hk9
        by_cases hq9 : q = k9
        · subst hq9
          rw [if_pos rfl, if_pos (zlt ht)] at hk9
          cases hk9
          refine ⟨t, ht, rfl, fun c9 hc9 => ?_⟩
          rcases List.mem_or_eq_of_mem_set hc9 with hc9 | hc9
          · exact (hW.2.2.2.1 q t ht).2 c9 hc9
          · rw [hc9]
            exact Nat.add_lt_add_right hxl 2
        · rw [if_neg hq9] at hk9
          exact ⟨t9, hk9, rfl, (hW.2.2.2.1 k9 t9 hk9).2⟩
      · cases h
    · cases h
  | arraylength =>
    simp only [zstep] at h
    split at h
    · rename_i q S0
      split at h
      · rename_i v hv
        simp only [Option.some.injEq, Prod.mk.injEq] at h
        obtain ⟨rfl, rfl, rfl, rfl⟩ := h
        obtain ⟨v1, st1, rfl, hv1, hs1⟩ := zrs_cons hs
        obtain ⟨hq, rfl⟩ := hv1
        rcases zalen_spec hv with ⟨rfl, rfl⟩ | ⟨hr1, hr2, rfl⟩ | ⟨t, ht, h0, rfl⟩
        · have had : ad 1000000 = b := by rw [hW.2.2.2.2.1 _ (by omega)]; unfold zsp; rw [if_pos (by omega)]
          have hsc := hW.2.2.2.2.2.2
          have hX := hst.2.2.2.2.2.2.2.2.2.1
          rw [had]
          exact va_slen hx hb hX (Nat.lt_of_lt_of_le hst.2.2.2.2.2.2.2.2.2.2.1 hst.2.2.2.2.2.2.2.2.2.2.2) (Nat.not_le.mpr hst.2.2.2.2.2.2.2.2.2.2.1) hS hd (kk _ _ _ _ hW hS hL ⟨by rw [hsc]; rfl, hs1⟩)
        · have hz : zStrN = 7 := rfl
          have had : ad q = adV (q - 3000000) := by
            rw [hW.2.2.2.2.1 _ (by omega)]
            unfold zsp
            rw [if_neg (by omega), if_neg (by omega)]
          obtain ⟨hO, hco, hva, hT⟩ := hst.2.2.1.1 (q - 3000000) (by omega)
          rw [had]
          exact va_tlen hx hb hT hS rfl hd (kk _ _ _ _ hW hS hL ⟨by rw [zstrlen]; rfl, hs1⟩)
        · have he := zWs_get (ad := ad) (κ := κ) ht
          by_cases h1 : t.1 = 0
          · rw [zE_int h1] at he
            obtain ⟨t0, ht0⟩ := (hW.2.2.2.1 q t ht).1.1 h1
            exact va_alen hx hb hW.1 hW.2.1 q t0 he ht0 rfl hd (kk _ _ _ _ hW hS hL ⟨rfl, hs1⟩)
          · by_cases h2 : t.1 = 1
            · rw [zE_long h2] at he
              obtain ⟨t0, ht0⟩ := (hW.2.2.2.1 q t ht).1.2.1 h2
              exact va_alen hx hb hW.1 hW.2.1 q t0 he ht0 rfl hd (kk _ _ _ _ hW hS hL ⟨rfl, hs1⟩)
            · have h3 : 10 ≤ t.1 ∧ t.1 < 100 := by omega
              rw [zE_ref h3.1 h3.2] at he
              obtain ⟨t0, cl, hcl, ht0⟩ := (hW.2.2.2.1 q t ht).1.2.2 h3.1 h3.2
              exact va_alen hx hb hW.1 hW.2.1 q t0 he ht0 rfl hd (kk _ _ _ _ hW hS hL ⟨rfl, hs1⟩)
      · cases h
    · cases h
  | invokespecial k =>
    simp only [zstep] at h
    simp only [zokS] at ho
    split at h
    · rename_i ha
      rw [if_pos ha] at ho
      split at h
      · rename_i q S0
        split at h
        · rename_i hsum
          simp only [Option.some.injEq, Prod.mk.injEq] at h
          obtain ⟨rfl, rfl, rfl, rfl⟩ := h
          obtain ⟨v1, st1, rfl, hv1, hs1⟩ := zrs_cons hs
          obtain ⟨hq, rfl⟩ := hv1
          have hsum2 := zrs_sum hs1
          exact W.objInit hx hb hown (hts _ (zIn_mem ho)) (hts _ zObj.1) (hts _ zObj.2) rfl (by show ls.size = _; rw [hlsz, hml]) rfl hd hRf (by show 2 * (F0 m pc ls (.ref (ad q) :: st1)).monitorRoom + (st1.map fun v => v.category).sum + 12 ≤ R.locals; have h8 : 2 * (F0 m pc ls (.ref (ad q) :: st1)).monitorRoom + (st1.map fun v => v.category).sum ≤ 8 := lv_room (by rw [hsum2]; exact hsum); omega) (kk _ _ _ _ hW hS hL hs1)
        · cases h
      · cases h
    · cases h
  | invokestatic k =>
    simp only [zstep] at h
    simp only [zokS] at ho
    split at h
    · rename_i ha
      rw [if_pos ha] at ho
      split at h
      · rename_i n dp r1 sp r0 S0
        split at h
        · rename_i hsum
          split at h
          · rename_i M1 hv
            simp only [Option.some.injEq, Prod.mk.injEq] at h
            obtain ⟨rfl, rfl, rfl, rfl⟩ := h
            obtain ⟨v1, st1, rfl, hv1, hs1⟩ := zrs_cons hs
            obtain ⟨v2, st2, rfl, hv2, hs2⟩ := zrs_cons hs1
            obtain ⟨v3, st3, rfl, hv3, hs3⟩ := zrs_cons hs2
            obtain ⟨v4, st4, rfl, hv4, hs4⟩ := zrs_cons hs3
            obtain ⟨v5, st5, rfl, hv5, hs5⟩ := zrs_cons hs4
            obtain rfl : v1 = .int n := hv1
            obtain rfl : v2 = .int dp := hv2
            obtain ⟨-, rfl⟩ := hv3
            obtain rfl : v4 = .int sp := hv4
            obtain ⟨-, rfl⟩ := hv5
            obtain ⟨t, u, ht, hu, h0, h00, g1, g2, g3, g4, g5, rfl⟩ := zcopy_spec hv
            have he := zWs_get (ad := ad) (κ := κ) ht
            rw [zE_int h0] at he
            have he2 := zWs_get (ad := ad) (κ := κ) hu
            rw [zE_int h00] at he2
            obtain ⟨t0, ht0⟩ := (hW.2.2.2.1 r0 t ht).1.1 h0
            obtain ⟨t1, ht1⟩ := (hW.2.2.2.1 r1 u hu).1.1 h00
            have hsum2 := zrs_sum hs5
            refine va_copyi hx hb (hml.trans hlsz.symm) hown (hts _ (zIn_mem ho)) (hts _ zCopyW.1) (hts _ zCopyW.2.1) (hts _ zCopyW.2.2) hW.1 hW.2.1 hW.2.2.1 hS r0 r1 t0 t1 he he2 ht0 ht1 rfl g1 g2 g3 g4 g5 (fun _ _ => rfl) hRf ?_ hd (fun H1 locs1 hP hD hS1 => ?_)
            · have h9 : nativeFrameWords "java/lang/System" "arraycopy" 5 + 11 ≤ 100 := by decide +kernel
              omega
            · have hset : (zWs ad κ M).set r1 (ad r1, .inl (κ r1, u.2.1, .inl (va_cpy (M.2.1 r0) (M.2.1 r1) sp.toNatClampNeg dp.toNatClampNeg n.toNatClampNeg))) = zWs ad κ (M.1, zcpy M.2.1 r0 r1 sp.toNatClampNeg dp.toNatClampNeg n.toNatClampNeg, M.2.2) := by
                refine zWs_set (t' := u) hu (zset_self hu) (fun i hi => zcpy_ne _ hi) (fun i hi => rfl) ?_
                show zE ad (κ r1) (zcpy M.2.1 r0 r1 sp.toNatClampNeg dp.toNatClampNeg n.toNatClampNeg r1) (M.2.2.1 r1) u = _
                rw [zE_int h00, zcpy_same]
              rw [hset] at hP hD
              exact kk _ _ _ _ (zWo_updS hW hP hD rfl rfl) hS1 hL hs5
          · cases h
        · cases h
      · cases h
    · rename_i ha
      rw [if_neg ha] at ho
      split at h
      · rename_i S1 hv
        simp only [Option.some.injEq, Prod.mk.injEq] at h
        obtain ⟨rfl, rfl, rfl, rfl⟩ := h
        unfold zmth at hv
        split at hv
        · rename_i ha0
          rw [if_pos ha0] at ho
          split at hv
          · rename_i y x S0
            split at hv
            · rename_i hsum
              cases hv
              obtain ⟨v1, st1, rfl, hv1, hs1⟩ := zrs_cons hs
              obtain ⟨v2, st2, rfl, hv2, hs2⟩ := zrs_cons hs1
              obtain rfl : v1 = .int y := hv1
              obtain rfl : v2 = .int x := hv2
              have hsum2 := zrs_sum hs2
              exact va_mmax hx hb (hml.trans hlsz.symm) hown (hts _ (zIn_mem ho)) (hts _ zMaxW.1) (hts _ zIni_math) (hts _ zMaxW.2) hRf (by omega) hcR hsR hd (kk _ _ _ _ hW hS hL ⟨rfl, hs2⟩)
            · cases hv
          · cases hv
        · rename_i ha0
          rw [if_neg ha0] at ho
          split at hv
          · rename_i ha1
            rw [if_pos ha1] at ho
            split at hv
            · rename_i y x S0
              split at hv
              · rename_i hsum
                cases hv
                obtain ⟨v1, st1, rfl, hv1, hs1⟩ := zrs_cons hs
                obtain ⟨v2, st2, rfl, hv2, hs2⟩ := zrs_cons hs1
                obtain rfl : v1 = .int y := hv1
                obtain rfl : v2 = .int x := hv2
                have hsum2 := zrs_sum hs2
                exact va_mmin hx hb (hml.trans hlsz.symm) hown (hts _ (zIn_mem ho)) (hts _ zMinW.1) (hts _ zIni_math) (hts _ zMinW.2) hRf (by omega) hcR hsR hd (kk _ _ _ _ hW hS hL ⟨rfl, hs2⟩)
              · cases hv
            · cases hv
          · rename_i ha1
            rw [if_neg ha1] at ho
            split at hv
            · rename_i ha2
              rw [if_pos ha2] at ho
              split at hv
              · rename_i x S0
                split at hv
                · rename_i hsum
                  cases hv
                  obtain ⟨v1, st1, rfl, hv1, hs1⟩ := zrs_cons hs
                  obtain rfl : v1 = .int x := hv1
                  have hsum2 := zrs_sum hs1
                  exact va_mabs hx hb (hml.trans hlsz.symm) hown (hts _ (zIn_mem ho)) (hts _ zAbsW.1) (hts _ zIni_math) (hts _ zAbsW.2) hRf (by omega) hcR hsR hd (kk _ _ _ _ hW hS hL ⟨rfl, hs1⟩)
                · cases hv
              · cases hv
            · cases hv
      · cases h
  | _ => exact absurd h (by simp [zstep])
