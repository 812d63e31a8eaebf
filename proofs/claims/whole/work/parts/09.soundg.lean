/-! ===== a run of a method is a contract of it ===== -/
def zws (r : zRec) : List Cond := (if zRh r = [] then Cond.code (zRn r) (zRb r) (zRl r) (zRr r) else Cond.codeWith (zRn r) (zRb r) (zRl r) (zRr r) (zRh r)) :: zWd
theorem zlv_args : ∀ (cs : List Value) (k i : Nat) (v : Value), (cs.all fun v => v.category == 1) = true → cs[i]? = some v → (k + i, v) ∈ lv_args k cs
  | [], _, _, _, _, h => by simp at h
  | a :: cs, k, 0, v, hc, h => by
    simp at h
    subst h
    exact List.mem_cons_self
  | a :: cs, k, i + 1, v, hc, h => by
    simp only [List.all_cons, Bool.and_eq_true, beq_iff_eq] at hc
    have h1 : cs[i]? = some v := by simpa using h
    unfold lv_args
    rw [if_neg (by omega)]
    have h2 := zlv_args cs (k + 1) i v hc.2 h1
    rw [show k + 1 + i = k + (i + 1) by omega] at h2
    exact List.mem_cons_of_mem _ h2
theorem zlg_len : ∀ (cs : List Value), (cs.all fun v => v.category == 1) = true → (lg_sl cs).length = cs.length
  | [], _ => rfl
  | a :: cs, hc => by
    simp only [List.all_cons, Bool.and_eq_true, beq_iff_eq] at hc
    have h2 := zlg_len cs hc.2
    unfold lg_sl at h2 ⊢
    rw [List.flatMap_cons, List.length_append, h2, if_neg (by omega)]
    simp
    omega
theorem zrs_all {ad : Nat → Nat} {n : Nat} : ∀ {S st : List Value}, zrs ad n S st → (S.all fun v => v.category == 1) = true → (st.all fun v => v.category == 1) = true
  | [], [], _, _ => rfl
  | _ :: _, _ :: _, hs, h => by
    simp only [List.all_cons, Bool.and_eq_true, beq_iff_eq] at h ⊢
    exact ⟨(zrv_cat hs.1).trans h.1, zrs_all hs.2 h.2⟩
  | [], _ :: _, h, _ => h.elim
  | _ :: _, [], h, _ => h.elim
theorem zLo_entry {ad : Nat → Nat} {n nL : Nat} {as cs : List Value} (hs : zrs ad n as cs) (hc : (as.all fun v => v.category == 1) = true) (hn : as.length ≤ nL) :
    zLo ad n nL (as ++ List.replicate (nL - as.length) (.float 0)) ((lg_sl cs ++ List.replicate (nL - (lg_sl cs).length) Slot.unset).toArray) := by
  have hcc := zrs_all hs hc
  have hlen := zrs_len hs
  have hlg := zlg_len cs hcc
  refine ⟨by rw [List.length_append, List.length_replicate]; omega, lv_args 0 cs, lv_entry cs (by omega), fun i a hi => ?_⟩
  by_cases h : i < as.length
  · rw [List.getElem?_append_left h] at hi
    obtain ⟨v, h1, h2⟩ := zrs_get hs i a hi
    right
    refine ⟨v, ?_, h2, ?_⟩
    · have h3 := zlv_args cs 0 i v hcc h1
      rw [Nat.zero_add] at h3
      exact h3
    · have h4 := List.all_eq_true.mp hcc v (List.mem_of_getElem? h1)
      simpa using h4
  · left
    rw [List.getElem?_append_right (by omega)] at hi
    have h5 := List.mem_of_getElem? hi
    exact (List.mem_replicate.mp h5).2
set_option maxHeartbeats 4000000 in
theorem zmet {Rr : Nat → zRec} {T : Nat → List (List (Option zOp))} {N n : Nat} (hT : zTok Rr T N) (hn : zSnd Rr T N n) {d y : Nat} (hy : y < N) {as : List Value} {M M' : zM} {o : zO} {u : Nat}
    (h : zx Rr T n d y 0 (as ++ List.replicate (zRl (Rr y) - as.length) (.float 0)) [] M = some (o, M', u)) (hlen : as.length ≤ zRl (Rr y)) (hcat : (as.all fun v => v.category == 1) = true)
    (l : Launch) (hl : l.stackTraces = false) (D : va_G) (b sz0 : Nat) (sc : Nat × (Nat → Int32)) (adK adV ad : Nat → Nat) (κ : Nat → ClassId) (tys : List (ClassId × FieldType)) :
    vx_Met l (zRn (Rr y)) (zws (Rr y)) ({ frames := d + 20, cells := u, slots := u, locals := 64 * d + 300 }) (zPc D b sz0 sc adK adV ad κ tys M as) (zQc D b sz0 sc adK adV ad M.1.length M' o) (zXC D b sz0 sc adK adV ad M.1.length M' o) u u (zA sz0) := by
  have hR := hT.1 y hy
  generalize hr : Rr y = r at hR h hlen
  have hRR := hR
  simp only [zokR, Bool.and_eq_true, decide_eq_true_eq] at hR
  obtain ⟨⟨⟨⟨⟨⟨hgd, hl40⟩, hini⟩, hcode⟩, hhh⟩, hee⟩, hkind⟩ := hR
  simp only [zGd, Bool.and_eq_true, decide_eq_true_eq] at hgd
  have body : ∀ p e s m args below meth c s₁, BodyLoose p l (zRn r) (headSpec (zws r) { frames := d + 20, cells := u, slots := u, locals := 64 * d + 300 }) (zRb r) (zRl r) (zRr r) e s m args below meth c s₁ → c.maxLocals = zRl r → c.exceptionTable.toList = tableOf (zRh r) → zPc D b sz0 sc adK adV ad κ tys M as args s →
      W p l e (headSpec (zws r) { frames := d + 20, cells := u, slots := u, locals := 64 * d + 300 }).room s m args below meth c s.heap [] 0 0 (vx_MQ below (zQc D b sz0 sc adK adV ad M.1.length M' o) (zXC D b sz0 sc adK adV ad M.1.length M' o) args s u u (zA sz0)) (entryFrame m args (zRl r)) := by
    intro p e s m args below meth c s₁ B hml hex hP
    obtain ⟨cs, rfl, hrs, hst, hW⟩ := hP
    have hts0 : ∀ w ∈ zws r, w.before cs.toArray s = true := atoms_spec (ws := zws r) B.pre
    have hts : ∀ w ∈ zWd, w.before cs.toArray s = true := fun w hw => hts0 w (List.mem_cons_of_mem _ hw)
    have hown := findClass_of_methodNamed B.named
    have hC : zCx b sz0 sc adK adV r p l s m cs.toArray meth c := ⟨B.exec, B.bytes, hml, hown, hts, hl, B.notSynchronized, fun _ => (name_of_methodNamed B.named B.method).1, hst⟩
    rw [lg_entry_eq]
    have hL := zLo_entry hrs hcat hlen
    have hx := B.exec
    have hb := B.bytes
    have hlk := B.notSynchronized
    subst hr
    refine hn d y 0 _ _ _ _ _ _ h (Or.inl hy) p l e _ s m cs.toArray below meth c s.heap [] 0 0 _ _ [] D b sz0 sc adK adV ad κ tys u u hC hex hW va_S.rf hL trivial (Nat.le_refl _) (Nat.le_refl _) (Nat.le_refl _) (Nat.le_refl _) (by omega) (by omega) ?_ ?_ ?_
    · intro ad' κ' tys' H' locs' pc' ls' st' hext hW' hS' hret
      have fin : ∀ (v : Option Value), zrO ad' M'.1.length o v → ∀ t : State, t.heap = H' → s.WarmedH t.vm → zQc D b sz0 sc adK adV ad M.1.length M' o cs.toArray s (.returned v) t := fun v hv t ht hWm =>
        ⟨⟨v, ad', κ', tys', rfl, hv, hext, by rw [ht]; exact zWo_moved hWm.alike hW'⟩, hS'.F ht⟩
      match o, hret, fin with
      | .inl none, ⟨hd, hr0, e1⟩, fin =>
        subst e1
        exact vx_ret (W.vret hx hb (B.returns.trans hr0) (fin none rfl) hS'.2.2 hd hlk)
      | .inl (some (.int x)), ⟨hd, hr0, e1⟩, fin =>
        subst e1
        obtain ⟨ty, e2, e3⟩ := zrok_spec hr0
        exact vx_ret (W.zret hx hb (B.returns.trans e2) e3 (fin (some (.int x)) ⟨_, rfl, rfl⟩) hS'.2.2 hd hlk)
      | .inl (some (.ref a)), ⟨hd, hr0, h3, e1⟩, fin =>
        subst e1
        unfold zrokA at hr0
        split at hr0
        · rename_i nm e2
          exact vx_ret (W.aret hx hb (B.returns.trans e2) (Or.inl ⟨nm, rfl⟩) (Or.inr ⟨_, rfl⟩) (fin (some (.ref (ad' a))) ⟨_, rfl, h3, rfl⟩) hS'.2.2 hd hlk)
        · cases hr0
      | .inl (some .null), ⟨hd, hr0, e1⟩, fin =>
        subst e1
        unfold zrokA at hr0
        split at hr0
        · rename_i nm e2
          exact vx_ret (W.aret hx hb (B.returns.trans e2) (Or.inl ⟨nm, rfl⟩) (Or.inl rfl) (fin (some .null) ⟨_, rfl, rfl⟩) hS'.2.2 hd hlk)
        · cases hr0
    · intro k ad' κ' tys' H' locs' pc' ls' st' cells' slots' k0 b0 is0 ic0 ho hext hW' hS' hd0 hzt hsum hlsz hc1 hs1
      simp only [zokT, Bool.and_eq_true, Bool.or_eq_true, decide_eq_true_eq] at hzt
      obtain ⟨⟨⟨⟨⟨⟨hk4, hnoh⟩, hd3⟩, hdd⟩, hstr⟩, hcl1, hcl2⟩, hml1, hml2⟩ := hzt
      have hall := zXok_all k hk4
      unfold zXok at hall
      obtain ⟨q, hq, hq2⟩ := List.any_eq_true.mp hstr
      simp only [Bool.and_eq_true, decide_eq_true_eq] at hq2
      obtain ⟨⟨e1, e2⟩, e3⟩ := hq2
      have hvR := hst.2.1 q hq
      rw [e1, e2, e3] at hvR
      have hin : ∀ w9, w9 ∈ lw_tbl → goodWord w9 = true → w9.before cs.toArray s = true ∧ vx_ot w9 = true := fun w9 h1 h2 => ⟨hts w9 (List.mem_filter.mpr ⟨h1, h2⟩), by unfold vx_ot; rw [h2]; simp⟩
      have hin2 : ∀ w9, w9 ∈ Cond.initialized (zExn k) :: zXw k → w9.before cs.toArray s = true ∧ vx_ot w9 = true := by
        intro w9 h9
        have h1 := List.all_eq_true.mp hall w9 h9
        simp only [Bool.and_eq_true, Bool.or_eq_true, decide_eq_true_eq] at h1
        obtain ⟨⟨h2, h3⟩, h4⟩ := h1
        refine ⟨?_, h3⟩
        rcases h4 with h4 | h4
        · exact hts w9 (List.mem_filter.mpr ⟨h2, h4⟩)
        · exact (hst.1 w9 (List.mem_filter.mpr ⟨h2, h4⟩)).use (zIs_tab h4)
      have hwords : k ≠ 3 → ∀ w ∈ Cond.classLink (zRn (Rr y)).cls k0 (zExn k) :: Cond.initialized (zExn k) :: vx_atS (zRn (Rr y)).cls ic0 (zExn k) zXn, w.before cs.toArray s = true ∧ vx_ot w = true := by
        intro hk3 w hw
        rcases List.mem_cons.mp hw with rfl | hw
        · exact hin _ hcl1 hcl2
        · rcases List.mem_cons.mp hw with rfl | hw
          · exact hin2 _ List.mem_cons_self
          · rcases zown_mem hk3 hw with rfl | hw
            · exact hin _ hml1 hml2
            · exact hin2 _ (List.mem_cons_of_mem _ hw)
      have hfit : Bundle.fit (zExn k) = true := by
        have key : ∀ a, a < 4 → Bundle.fit (zExn a) = true := by decide +kernel
        exact key k hk4
      have hnames : ∀ nm ∈ zXn, Bundle.fit nm = true := by decide +kernel
      have hXC : ∀ t : State, s.vm.Alike t.vm → H'.size ≤ t.heap.size → (∀ q : Nat, q < H'.size → t.heap[q]? = H'[q]?) → zXC D b sz0 sc adK adV ad M.1.length M' o (zExn k) s t := fun t ht hz hq =>
        ⟨⟨k, ad', κ', tys', ho, hk4, rfl, hext, zWo_moved ht (zWo_kept hq hW')⟩, Nat.le_trans hS'.1 hz, fun z hz1 hz2 => (hq z (Nat.lt_of_lt_of_le hz1 hS'.1)).trans (hS'.2.1 z hz1 hz2)⟩
      have hnot : ∀ (pcx : Nat), ∀ x ∈ c.exceptionTable.toList, covers x pcx = false := by
        intro pcx x hx
        rw [hex, hnoh] at hx
        cases hx
      rcases hdd with ⟨⟨⟨hk3, d4⟩, d6⟩, d9⟩ | ⟨⟨d4, d7⟩, d10⟩
      · exact vx_throwS (names := zXn) (cls := zExn k) hx hb hl hown hfit hnames (hwords hk3 _ List.mem_cons_self).1 (hwords hk3 _ (List.mem_cons_of_mem _ List.mem_cons_self)).1 hvR (fun w hw => (hwords hk3 w (List.mem_cons_of_mem _ (List.mem_cons_of_mem _ hw))).1) (fun w hw => (hwords hk3 w hw).2)
          hst.2.2.2.2.2.1 hst.2.2.2.2.2.2.1 hS' hlsz hd0 hd3 d4 d6 d9 (hnot _) (by show 2 + 3 < d + 20; omega) (by show _ + (13 * (2 + 1) + 43) ≤ 64 * d + 300; omega) (by show cells' + 1 ≤ u; omega) (by show slots' + 6 ≤ u; omega) hlk hXC hS'.2.2 (by omega) (by omega)
      · by_cases hk3 : k = 3
        · subst hk3
          have hw3 : ∀ w ∈ Cond.classLink (zRn (Rr y)).cls k0 zS3 :: Cond.initialized zS3 :: (z3at (zRn (Rr y)).cls ic0).filter vx_no, w.before cs.toArray s = true ∧ vx_ot w = true := by
            intro w hw
            rcases List.mem_cons.mp hw with rfl | hw
            · exact hin _ hcl1 hcl2
            · rcases List.mem_cons.mp hw with rfl | hw
              · exact hin2 _ List.mem_cons_self
              · rcases zown_mem3 hw with rfl | hw
                · exact hin _ hml1 hml2
                · exact hin2 _ (List.mem_cons_of_mem _ hw)
          exact z3throw hx hb hl hown (hw3 _ List.mem_cons_self).1 (hw3 _ (List.mem_cons_of_mem _ List.mem_cons_self)).1 hvR (fun w hw => (hw3 w (List.mem_cons_of_mem _ (List.mem_cons_of_mem _ hw))).1) (fun w hw => (hw3 w hw).2)
            hst.2.2.2.2.2.1 hst.2.2.2.2.2.2.1 hS' hlsz hd0 hd3 d4 d7 d10 (hnot _) (by show 5 < d + 20; omega) (by show _ + 82 ≤ 64 * d + 300; omega) (by show cells' + 1 ≤ u; omega) (by show slots' + 6 ≤ u; omega) hlk hXC hS'.2.2 (by omega) (by omega)
        exact vx_throwSW (names := zXn) (cls := zExn k) hx hb hl hown hfit hnames (hwords hk3 _ List.mem_cons_self).1 (hwords hk3 _ (List.mem_cons_of_mem _ List.mem_cons_self)).1 hvR (fun w hw => (hwords hk3 w (List.mem_cons_of_mem _ (List.mem_cons_of_mem _ hw))).1) (fun w hw => (hwords hk3 w hw).2)
          hst.2.2.2.2.2.1 hst.2.2.2.2.2.2.1 hS' hlsz hd0 hd3 d4 d7 d10 (hnot _) (by show 2 + 3 < d + 20; omega) (by show _ + (13 * (2 + 1) + 43) ≤ 64 * d + 300; omega) (by show cells' + 1 ≤ u; omega) (by show slots' + 6 ≤ u; omega) hlk hXC hS'.2.2 (by omega) (by omega)
    · intro k ce q9 ad' κ' tys' H' locs' pc' ls' st' ho hk4 hext hW' hS' hce hcv hcl hnone
      refine vx_outP (own := (zRn (Rr y)).cls) hown hlk ?_ hce hcv hcl (fun t ht hal => ⟨⟨k, ad', κ', tys', ho, hk4, rfl, hext, by rw [ht]; exact zWo_moved hal hW'⟩, hS'.F ht⟩) hS'.2.2 (Nat.le_refl _) (Nat.le_refl _)
      rw [hex]
      by_cases hh : zRh (Rr y) = []
      · rw [hh]
        intro z hz
        cases hz
      · rw [if_neg hh] at hcode
        simp only [Bool.and_eq_true, decide_eq_true_eq] at hcode
        rw [hhh]
        exact zpass hk4 hcode.1.2 hts hst _ (fun z hz => by have := List.all_eq_true.mp hee z hz; simpa using this) (zhnd_none hnone)
  by_cases hh : zRh r = []
  · refine vx_ofW (cc := zRb r) (maxL := zRl r) (ret := zRr r) (ws' := zWd) hgd.1.1 (by unfold zws; rw [if_pos hh]) (fun p e s m args below meth c s₁ B hml hex hP => body p e s m args below meth c s₁ B hml ?_ hP)
    rw [hh]
    cases ht : c.exceptionTable.toList with
    | nil => rfl
    | cons a t => exact (hex a (by rw [ht]; exact List.mem_cons_self)).elim
  · refine vx_ofWH (cc := zRb r) (maxL := zRl r) (ret := zRr r) (hh := zRh r) (ws' := zWd) hgd.1.1 (by unfold zws; rw [if_neg hh]) (fun p e s m args below meth c s₁ B hml hP => body p e s m args below meth c s₁ B hml ?_ hP)
    have hts0 : ∀ w ∈ zws r, w.before args s = true := atoms_spec (ws := zws r) B.pre
    have hcw := hts0 _ List.mem_cons_self
    rw [if_neg hh] at hcw
    exact vx_table (x := zRn r) B hcw
