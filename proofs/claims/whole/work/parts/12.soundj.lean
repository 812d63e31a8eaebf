set_option maxHeartbeats 8000000 in
set_option maxRecDepth 100000 in
theorem zsound {Rr : Nat → zRec} {T : Nat → List (List (Option zOp))} {N : Nat} (hT : zTok Rr T N) : ∀ n, zSnd Rr T N n := by
  intro n
  induction n with
  | zero =>
    intro d y pc L S M o M' u h hy
    unfold zx at h
    cases h
  | succ n ih =>
    intro d y pc L S M o M' u h hy p l e R s m args below meth c H locs cells slots Q ls st D b sz0 sc adK adV ad κ tys Ct Dt C hex hW hS hL hs hRf hRl hCt hDt hcu hsu Kret Kthr Kx
    unfold zx at h
    cases hf : zfet (T y) pc with
    | none => rw [hf] at h; cases h
    | some op =>
      simp only [hf] at h
      obtain ⟨hd, ho, hX⟩ := hT.2 y pc op hf
      cases hz : zstep op pc L S M with
      | some c1 =>
        simp only [hz] at h
        obtain ⟨pc1, L1, S1, M1⟩ := c1
        have hlen : M1.1.length = M.1.length := zstep_len hz
        refine zstep_W C hd ho hz hW hS hL hs (by omega) (by omega) (by omega) (by omega) (fun H1 locs1 ls1 st1 hW1 hS1 hL1 hs1 => ?_)
        refine ih d y pc1 L1 S1 M1 o M' u h hy p l e R s m args below meth c H1 locs1 cells slots Q ls1 st1 D b sz0 sc adK adV ad κ tys Ct Dt C hex hW1 hS1 hL1 hs1 hRf hRl hCt hDt hcu hsu ?_ ?_ ?_
        · rw [hlen]; exact Kret
        · rw [hlen]; exact Kthr
        · rw [hlen]; exact Kx
      | none =>
        simp only [hz] at h
        obtain ⟨hx, hb, hml, hown, hts, hlt, hlk, hnm, hst⟩ := id C
        have hlsz : ls.size = zRl (Rr y) := by obtain ⟨-, lv, hl, -⟩ := hL; exact hl.1
        have hdec : decode (zRb (Rr y)) pc = .ok (op.1, zlen op) := by simpa [zokD] using hd
        have hA : ∀ q : Nat, s.heap.size ≤ q → zA sz0 q := fun q hq => Nat.le_trans hst.2.2.2.2.2.2.2.2.2.2.2 hq
        -- a call
        have h0 := h
        clear h
        have call : ∀ (i : Instr) (len a b1 c1 w : Nat), op = (i, len, a, b1, c1, w) → ((∃ k, i = .invokevirtual k) ∨ (∃ k, i = .invokestatic k) ∨ ∃ k, i = .invokespecial k) → zlen op = 3 →
            zinv Rr (zx Rr T n) d y pc L S M a b1 = some (o, M', u) → W p l e R s m args below meth c H locs cells slots Q (F0 m pc ls st) := by
          intro i len a b1 c1 w hop hi hl3 h
          subst hop
          clear h0
          rw [hl3] at hdec
          by_cases ha : a < 9000
          · unfold zinv at h
            rw [if_pos ha] at h
            cases harg : zarg M (Rr a) b1 S with
            | none => rw [harg] at h; cases h
            | some z =>
              obtain ⟨as, S'⟩ := z
              rw [harg] at h
              cases d with
              | zero => cases h
              | succ d =>
                simp only at h
                cases hrun : zx Rr T n d a 0 (as ++ List.replicate (zRl (Rr a) - as.length) (.float 0)) [] M with
                | none => rw [hrun] at h; cases h
                | some z2 =>
                  obtain ⟨o1, M1, u1⟩ := z2
                  rw [hrun] at h
                  have hu : ∃ u2, u = u1 + u2 := by
                    cases o1 with
                    | inl v => obtain ⟨k', -, hk'⟩ := zcost_some h; exact ⟨k', hk'⟩
                    | inr E =>
                      simp only at h
                      cases hh : zhnd (zRe (Rr y)) pc E with
                      | some t => rw [hh] at h; obtain ⟨k', -, hk'⟩ := zcost_some h; exact ⟨k', hk'⟩
                      | none => rw [hh] at h; cases h; exact ⟨0, rfl⟩
                  obtain ⟨u2, hu2⟩ := hu
                  obtain ⟨rest, a9, hsR, hr⟩ := zrun hT ih (cells := cells) (slots := slots) C hdec hi hX ha harg hrun hW hS hlsz hs (by omega) (by omega) (by omega) (by omega)
                  refine zcallW hr hS (fun ce q9 k ad' κ' tys' H1 locs1 ho1 hk4 hext hW1 hS1 hce hcv hcl => ?_) (fun v ad' κ' tys' H1 locs1 hrO hext hW1 hS1 => ?_)
                  · subst ho1
                    simp only at h
                    cases hh : zhnd (zRe (Rr y)) pc k with
                    | none =>
                      rw [hh] at h
                      cases h
                      exact vx_widen (by omega) (by omega) (Kx k ce q9 ad' κ' tys' H1 locs1 pc ls rest rfl hk4 hext hW1 hS1 hce hcv hcl hh)
                    | some t =>
                      rw [hh] at h
                      obtain ⟨k', h2, hk'⟩ := zcost_some h
                      obtain ⟨pre, x, suf, hsp, hpre, hx1, hx2, hx3, hx4⟩ := zhnd_some hh
                      have hyN : y < N := by
                        rcases hy with hy | hy
                        · exact hy
                        · rw [hy] at hh
                          cases hh
                      have hokk := hT.1 y hyN
                      simp only [zokR, Bool.and_eq_true, decide_eq_true_eq] at hokk
                      obtain ⟨⟨⟨⟨⟨⟨-, -⟩, -⟩, hcode⟩, hhh⟩, hee1⟩, -⟩ := hokk
                      have hee : ∀ z ∈ zRe (Rr y), z.2.2.2 < 4 := fun z hz => by have := List.all_eq_true.mp hee1 z hz; simpa using this
                      have hok : zRh (Rr y) ≠ [] ∧ (zRn (Rr y)).cls = "ColdStoresLaw" := by
                        have hne : zRh (Rr y) ≠ [] := by
                          rw [hhh, hsp]
                          simp
                        rw [if_neg hne] at hcode
                        simp only [Bool.and_eq_true, decide_eq_true_eq] at hcode
                        exact ⟨hne, hcode.1.2⟩
                      obtain ⟨hc1, hc2, hc3⟩ := zCt_ok k hk4
                      refine vx_catch (own := (zRn (Rr y)).cls) (name := zExn k) (E := zExn k) hown (tableOf (pre.map fun z => (z.1, z.2.1, z.2.2.1, zCt z.2.2.2))) ⟨x.1, x.2.1, x.2.2.1, zCt x.2.2.2⟩ (tableOf (suf.map fun z => (z.1, z.2.1, z.2.2.1, zCt z.2.2.2))) ?_ ?_ ?_ ?_ ?_ ?_ hce hcv hcl ?_
                      · rw [hex, hhh, hsp, List.map_append, List.map_cons]
                        unfold tableOf
                        rw [List.map_append, List.map_cons]
                      · exact zpass hk4 hok.2 hts hst pre (fun z hz => hee z (by rw [hsp]; exact List.mem_append_left _ hz)) hpre
                      · rw [zcov]
                        simp [hx1, hx2]
                      · rw [hx3]; exact hc1
                      · rw [hx3, hok.2]; exact hts _ hc2
                      · exact (hst.1 _ hc3).use rfl
                      · rw [show (ExceptionTableEntry.mk x.1 x.2.1 x.2.2.1 (zCt x.2.2.2)).handlerPc = t from hx4]
                        refine ih (d + 1) y t L [.float 1] M1 o M' k' h2 hy p l e R s m args below meth c H1 locs1 (cells + u1) (slots + u1) Q ls [.ref q9] D b sz0 sc adK adV ad' κ' tys' Ct Dt C hex hW1 hS1 (zLo_ext hext hL) ⟨⟨q9, rfl⟩, trivial⟩ hRf hRl hCt hDt (by omega) (by omega) ?_ ?_ ?_
                        · intro ad2 κ2 tys2 H2 locs2 pc2 ls2 st2 hext2; exact Kret ad2 κ2 tys2 H2 locs2 pc2 ls2 st2 (zExt_tr hext hext2)
                        · intro k9 ad2 κ2 tys2 H2 locs2 pc2 ls2 st2 c2 s2 k0 b0 is0 ic0 ho9 hext2; exact Kthr k9 ad2 κ2 tys2 H2 locs2 pc2 ls2 st2 c2 s2 k0 b0 is0 ic0 ho9 (zExt_tr hext hext2)
                        · intro k9 ce9 q10 ad2 κ2 tys2 H2 locs2 pc2 ls2 st2 ho9 hk9 hext2; exact Kx k9 ce9 q10 ad2 κ2 tys2 H2 locs2 pc2 ls2 st2 ho9 hk9 (zExt_tr hext hext2)
                  · cases o1 with
                    | inr E => exact hrO.elim
                    | inl v1 =>
                      obtain ⟨k', h2, hk'⟩ := zcost_some h
                      have hsv : zrs ad' M1.1.length (v1.toList ++ S') (v.toList ++ rest) := by
                        cases v1 with
                        | none =>
                          obtain rfl : v = none := hrO
                          exact zrs_ext hext hsR
                        | some a1 =>
                          obtain ⟨w1, rfl, hw1⟩ := hrO
                          exact ⟨hw1, zrs_ext hext hsR⟩
                      refine ih (d + 1) y (pc + 3) L (v1.toList ++ S') M1 o M' k' h2 hy p l e R s m args below meth c H1 locs1 (cells + u1) (slots + u1) Q ls _ D b sz0 sc adK adV ad' κ' tys' Ct Dt C hex hW1 hS1 (zLo_ext hext hL) hsv hRf hRl hCt hDt (by omega) (by omega) ?_ ?_ ?_
                      · intro ad2 κ2 tys2 H2 locs2 pc2 ls2 st2 hext2; exact Kret ad2 κ2 tys2 H2 locs2 pc2 ls2 st2 (zExt_tr hext hext2)
                      · intro k9 ad2 κ2 tys2 H2 locs2 pc2 ls2 st2 c2 s2 k0 b0 is0 ic0 ho9 hext2; exact Kthr k9 ad2 κ2 tys2 H2 locs2 pc2 ls2 st2 c2 s2 k0 b0 is0 ic0 ho9 (zExt_tr hext hext2)
                      · intro k9 ce9 q10 ad2 κ2 tys2 H2 locs2 pc2 ls2 st2 ho9 hk9 hext2; exact Kx k9 ce9 q10 ad2 κ2 tys2 H2 locs2 pc2 ls2 st2 ho9 hk9 (zExt_tr hext hext2)
          · unfold zinv at h
            rw [if_neg ha] at h
            cases h
        obtain ⟨i, len, a, b1, c1, w⟩ := op
        have h := h0
        have hszr : (List.length ([] : List Value)) = 0 := rfl
        cases i with
        | return_ =>
          simp only [zfin] at h
          split at h
          · split at h
            · rename_i hr0
              cases h
              cases st with
              | nil => exact W.widen hcu hsu (Kret ad κ tys H locs pc ls [] (zExt_rf _ _) hW hS ⟨hdec, hr0, rfl⟩)
              | cons v st => exact hs.elim
            · cases h
          · cases h
        | ireturn =>
          simp only [zfin] at h
          split at h
          · rename_i x
            split at h
            · rename_i hr0
              cases h
              obtain ⟨v1, st1, rfl, hv1, hs1⟩ := zrs_cons hs
              obtain rfl : v1 = .int x := hv1
              cases st1 with
              | nil => exact W.widen hcu hsu (Kret ad κ tys H locs pc ls _ (zExt_rf _ _) hW hS ⟨hdec, hr0, rfl⟩)
              | cons v st => exact hs1.elim
            · cases h
          · cases h
        | areturn =>
          simp only [zfin] at h
          split at h
          · rename_i x
            split at h
            · rename_i hr0
              cases h
              obtain ⟨v1, st1, rfl, hv1, hs1⟩ := zrs_cons hs
              obtain ⟨hv2, rfl⟩ := hv1
              cases st1 with
              | nil => exact W.widen hcu hsu (Kret ad κ tys H locs pc ls _ (zExt_rf _ _) hW hS ⟨hdec, hr0, hv2, rfl⟩)
              | cons v st => exact hs1.elim
            · cases h
          · split at h
            · rename_i hr0
              cases h
              obtain ⟨v1, st1, rfl, hv1, hs1⟩ := zrs_cons hs
              obtain rfl : v1 = .null := hv1
              cases st1 with
              | nil => exact W.widen hcu hsu (Kret ad κ tys H locs pc ls _ (zExt_rf _ _) hW hS ⟨hdec, hr0, rfl⟩)
              | cons v st => exact hs1.elim
            · cases h
          · cases h
        | new k =>
          simp only [zfin] at h
          by_cases ha : a < 50
          · rw [if_pos ha] at h
            simp only [zokX, if_pos ha] at hX
            split at hX
            · rename_i q hq
              by_cases hm : M.1.length < 1000000
              · rw [if_pos hm] at h
                obtain ⟨k', h2, hk'⟩ := zcost_some h
                obtain ⟨hin, hty, hnmx⟩ := zcl_ok _ _ hq
                obtain ⟨hw1, hw2⟩ := znew_word _ _ hq
                obtain ⟨hfl, hfd, hfc⟩ := zfs_ok ad _ _ hq
                refine va_new (Ts := zWd) hx hb hts hin (zty a) hty hown (hts _ (zIn_mem hX)) (hts _ hw1) (hts _ hw2) hW.1 hW.2.1 hW.2.2.1 hS hA hq hfd (by omega) (by omega) hdec (fun q0 H1 hP hD hS1 => ?_)
                obtain ⟨hW1, hE1⟩ := zWo_push (M1 := znewI M a) (t := (100 + a, (zfs a).length, zfs a)) 0 hW hm rfl (fun i hi => zclr_ne _ _ (by omega)) (fun i hi => rfl) rfl hW.1 (fun i z hz => hz)
                  (fun ad' => by
                    show zE ad' 0 (zclr M.2.1 M.1.length 0 M.1.length) (M.2.2.1 M.1.length) (100 + a, (zfs a).length, zfs a) = Sum.inr (a, (zfs a).mapIdx (fun j c => zcv ad (zval c 0)))
                    rw [zE_obj (t := (100 + a, (zfs a).length, zfs a)) rfl, zclr_same]
                    congr 2
                    apply List.ext_getElem?
                    intro j
                    rw [List.getElem?_mapIdx, List.getElem?_mapIdx]
                    cases hj : (zfs a)[j]? with
                    | none => rfl
                    | some c9 =>
                      have h9 := hfc c9 (List.mem_of_getElem? hj)
                      have h6 : c9 = 0 ∨ c9 = 1 := by omega
                      rcases h6 with rfl | rfl <;> rfl) hP hD
                  ⟨fun z => by exfalso; have z2 : 100 + a = 0 := z; omega, fun z => by exfalso; have z2 : 100 + a = 1 := z; omega, fun _ z => by exfalso; have z2 : 100 + a < 100 := z; omega⟩ hfc
                refine W.widen (k := cells + ((zfs a).length + 1)) (n := slots + ((zfs a).length + 1)) (by omega) (by omega) ?_
                have hl2 : (znewI M a).1.length = M.1.length + 1 := by show (M.1 ++ [_]).length = _; rw [List.length_append]; rfl
                refine ih d y (pc + 3) L (.ref M.1.length :: S) (znewI M a) o M' k' h2 hy p l e R s m args below meth c H1 locs _ _ Q ls (.ref q0 :: st) D b sz0 sc adK adV _ _ tys Ct Dt C hex hW1 hS1 (zLo_ext hE1 hL) ⟨⟨Or.inl (by rw [hl2]; exact Nat.lt_succ_self _), by simp⟩, zrs_ext hE1 hs⟩ hRf hRl hCt hDt (by omega) (by omega) ?_ ?_ ?_
                · intro ad2 κ2 tys2 H2 locs2 pc2 ls2 st2 hext2; exact Kret ad2 κ2 tys2 H2 locs2 pc2 ls2 st2 (zExt_tr hE1 hext2)
                · intro k9 ad2 κ2 tys2 H2 locs2 pc2 ls2 st2 c2 s2 k0 b0 is0 ic0 ho9 hext2; exact Kthr k9 ad2 κ2 tys2 H2 locs2 pc2 ls2 st2 c2 s2 k0 b0 is0 ic0 ho9 (zExt_tr hE1 hext2)
                · intro k9 ce9 q10 ad2 κ2 tys2 H2 locs2 pc2 ls2 st2 ho9 hk9 hext2; exact Kx k9 ce9 q10 ad2 κ2 tys2 H2 locs2 pc2 ls2 st2 ho9 hk9 (zExt_tr hE1 hext2)
              · rw [if_neg hm] at h
                cases h
            · cases hX
          · rw [if_neg ha] at h
            simp only [zokX, if_neg ha] at hX
            split at h
            · rename_i hsum
              cases h
              exact Kthr (a - 50) ad κ tys H locs pc ls st cells slots k b1 c1 w rfl (zExt_rf _ _) hW hS hdec hX (by rw [zrs_sum hs]; exact hsum) (hlsz.trans hml.symm) hcu hsu
            · cases h
        | newarray t =>
          simp only [zfin] at h
          split at h
          · rename_i x S0
            split at h
            · cases h
            · rename_i hxx
              obtain ⟨v1, st1, rfl, hv1, hs1⟩ := zrs_cons hs
              obtain rfl : v1 = .int x := hv1
              have hx0 : ¬ x < 0 := fun q => hxx (Or.inl q)
              have hx1 : x.toNatClampNeg < 1000000 := Nat.lt_of_not_le fun q => hxx (Or.inr (Or.inl q))
              have hm : M.1.length < 1000000 := Nat.lt_of_not_le fun q => hxx (Or.inr (Or.inr q))
              split at h
              · rename_i ha
                simp only [zokX, if_pos ha, decide_eq_true_eq] at hX
                subst hX
                obtain ⟨k', h2, hk'⟩ := zcost_some h
                refine va_newa (atype := .int) (ty := .int) hx hb (hts _ (List.mem_filter.mpr ⟨by decide +kernel, by decide +kernel⟩)) rfl hW.1 hW.2.1 hW.2.2.1 hS hA (a0 := (x.toNatClampNeg, .inl (fun _ => 0))) (fun cA => rfl) hx0 rfl (by show x.toNatClampNeg * 4 ≤ 536870912; omega) (by omega) (by omega) hdec (fun q0 cA H1 hK hP hD hS1 => ?_)
                obtain ⟨hW1, hE1⟩ := zWo_push (M1 := znewA M x.toNatClampNeg) (t := (0, x.toNatClampNeg, [])) cA hW hm rfl (fun i hi => zclr_ne _ _ (by omega)) (fun i hi => rfl) rfl hK (fun i z hz => by rw [List.getElem?_append_left (zlt hz)]; exact hz)
                  (fun ad' => by
                    show zE ad' cA (zclr M.2.1 M.1.length 0 M.1.length) (M.2.2.1 M.1.length) (0, x.toNatClampNeg, []) = _
                    rw [zE_int (t := (0, x.toNatClampNeg, [])) rfl, zclr_same]) hP hD
                  ⟨fun _ => ⟨tys.length, by simp⟩, fun z => by exfalso; have z2 : 0 = 1 := z; omega, fun z _ => by exfalso; have z2 : 10 ≤ 0 := z; omega⟩ (fun c9 hc9 => by cases hc9)
                refine W.widen (k := cells + (x.toNatClampNeg + 1)) (n := slots + (x.toNatClampNeg + 1)) (by omega) (by omega) ?_
                have hl2 : (znewA M x.toNatClampNeg).1.length = M.1.length + 1 := by show (M.1 ++ [_]).length = _; rw [List.length_append]; rfl
                refine ih d y (pc + 2) L (.ref M.1.length :: S0) (znewA M x.toNatClampNeg) o M' k' h2 hy p l e R s m args below meth c H1 locs _ _ Q ls (.ref q0 :: st1) D b sz0 sc adK adV _ _ _ Ct Dt C hex hW1 hS1 (zLo_ext hE1 hL) ⟨⟨Or.inl (by rw [hl2]; exact Nat.lt_succ_self _), by simp⟩, zrs_ext hE1 hs1⟩ hRf hRl hCt hDt (by omega) (by omega) ?_ ?_ ?_
                · intro ad2 κ2 tys2 H2 locs2 pc2 ls2 st2 hext2; exact Kret ad2 κ2 tys2 H2 locs2 pc2 ls2 st2 (zExt_tr hE1 hext2)
                · intro k9 ad2 κ2 tys2 H2 locs2 pc2 ls2 st2 c2 s2 k0 b0 is0 ic0 ho9 hext2; exact Kthr k9 ad2 κ2 tys2 H2 locs2 pc2 ls2 st2 c2 s2 k0 b0 is0 ic0 ho9 (zExt_tr hE1 hext2)
                · intro k9 ce9 q10 ad2 κ2 tys2 H2 locs2 pc2 ls2 st2 ho9 hk9 hext2; exact Kx k9 ce9 q10 ad2 κ2 tys2 H2 locs2 pc2 ls2 st2 ho9 hk9 (zExt_tr hE1 hext2)
              · rename_i ha
                simp only [zokX, if_neg ha, decide_eq_true_eq] at hX
                subst hX
                obtain ⟨k', h2, hk'⟩ := zcost_some h
                refine va_newa (atype := .long) (ty := .long) hx hb (hts _ (List.mem_filter.mpr ⟨by decide +kernel, by decide +kernel⟩)) rfl hW.1 hW.2.1 hW.2.2.1 hS hA (a0 := (x.toNatClampNeg, .inr (.inl (fun _ => 0)))) (fun cA => rfl) hx0 rfl (by show x.toNatClampNeg * 8 ≤ 536870912; omega) (by omega) (by omega) hdec (fun q0 cA H1 hK hP hD hS1 => ?_)
                obtain ⟨hW1, hE1⟩ := zWo_push (M1 := znewL M x.toNatClampNeg) (t := (1, x.toNatClampNeg, [])) cA hW hm rfl (fun i hi => rfl) (fun i hi => zclr_ne _ _ (by omega)) rfl hK (fun i z hz => by rw [List.getElem?_append_left (zlt hz)]; exact hz)
                  (fun ad' => by
                    show zE ad' cA (M.2.1 M.1.length) (zclr M.2.2.1 M.1.length 0 M.1.length) (1, x.toNatClampNeg, []) = _
                    rw [zE_long (t := (1, x.toNatClampNeg, [])) rfl, zclr_same]) hP hD
                  ⟨fun z => by exfalso; have z2 : 1 = 0 := z; omega, fun _ => ⟨tys.length, by simp⟩, fun z _ => by exfalso; have z2 : 10 ≤ 1 := z; omega⟩ (fun c9 hc9 => by cases hc9)
                refine W.widen (k := cells + (x.toNatClampNeg + 1)) (n := slots + (x.toNatClampNeg + 1)) (by omega) (by omega) ?_
                have hl2 : (znewL M x.toNatClampNeg).1.length = M.1.length + 1 := by show (M.1 ++ [_]).length = _; rw [List.length_append]; rfl
                refine ih d y (pc + 2) L (.ref M.1.length :: S0) (znewL M x.toNatClampNeg) o M' k' h2 hy p l e R s m args below meth c H1 locs _ _ Q ls (.ref q0 :: st1) D b sz0 sc adK adV _ _ _ Ct Dt C hex hW1 hS1 (zLo_ext hE1 hL) ⟨⟨Or.inl (by rw [hl2]; exact Nat.lt_succ_self _), by simp⟩, zrs_ext hE1 hs1⟩ hRf hRl hCt hDt (by omega) (by omega) ?_ ?_ ?_
                · intro ad2 κ2 tys2 H2 locs2 pc2 ls2 st2 hext2; exact Kret ad2 κ2 tys2 H2 locs2 pc2 ls2 st2 (zExt_tr hE1 hext2)
                · intro k9 ad2 κ2 tys2 H2 locs2 pc2 ls2 st2 c2 s2 k0 b0 is0 ic0 ho9 hext2; exact Kthr k9 ad2 κ2 tys2 H2 locs2 pc2 ls2 st2 c2 s2 k0 b0 is0 ic0 ho9 (zExt_tr hE1 hext2)
                · intro k9 ce9 q10 ad2 κ2 tys2 H2 locs2 pc2 ls2 st2 ho9 hk9 hext2; exact Kx k9 ce9 q10 ad2 κ2 tys2 H2 locs2 pc2 ls2 st2 ho9 hk9 (zExt_tr hE1 hext2)
          · cases h
        | anewarray k =>
          simp only [zfin] at h
          split at h
          · rename_i x S0
            split at h
            · cases h
            · rename_i hxx
              obtain ⟨v1, st1, rfl, hv1, hs1⟩ := zrs_cons hs
              obtain rfl : v1 = .int x := hv1
              have hx0 : ¬ x < 0 := fun q => hxx (Or.inl q)
              have hx1 : x.toNatClampNeg < 1000000 := Nat.lt_of_not_le fun q => hxx (Or.inr (Or.inl q))
              have hm : M.1.length < 1000000 := Nat.lt_of_not_le fun q => hxx (Or.inr (Or.inr q))
              simp only [zokX] at hX
              split at hX
              · rename_i q hq
                simp only [Bool.and_eq_true, decide_eq_true_eq] at hX
                obtain ⟨hX1, hX2⟩ := hX
                obtain ⟨k', h2, hk'⟩ := zcost_some h
                have ha11 : a < 11 := zlt hq
                refine va_newq (C := q.1) hx hb hown (hts _ (zIn_mem hX1)) (hst.2.2.2.2.2.2.2.2.1 _ hX2) hW.1 hW.2.1 hW.2.2.1 hS hA hx0 rfl (by omega) (by omega) (by omega) hdec (fun q0 cA H1 hK hP hD hS1 => ?_)
                obtain ⟨hW1, hE1⟩ := zWo_push (M1 := znewQ M a x.toNatClampNeg) (t := (10 + a, x.toNatClampNeg, List.replicate x.toNatClampNeg 1)) cA hW hm rfl (fun i hi => rfl) (fun i hi => rfl) rfl hK (fun i z hz => by rw [List.getElem?_append_left (zlt hz)]; exact hz)
                  (fun ad' => by
                    show zE ad' cA (M.2.1 M.1.length) (M.2.2.1 M.1.length) (10 + a, x.toNatClampNeg, List.replicate x.toNatClampNeg 1) = _
                    rw [zE_ref (t := (10 + a, x.toNatClampNeg, List.replicate x.toNatClampNeg 1)) (by show 10 ≤ 10 + a; omega) (by show 10 + a < 100; omega)]
                    refine congrArg (fun z => (Sum.inl (cA, x.toNatClampNeg, Sum.inr (Sum.inr (Sum.inr (Sum.inr z)))) : va_E)) ?_
                    funext j
                    show zrq ad' (List.replicate x.toNatClampNeg 1)[j]? = none
                    rw [List.getElem?_replicate]
                    split <;> rfl) hP hD
                  ⟨fun z => by exfalso; have z2 : 10 + a = 0 := z; omega, fun z => by exfalso; have z2 : 10 + a = 1 := z; omega, fun _ _ => ⟨tys.length, q, by show vwCl[10 + a - 10]? = some q; rw [Nat.add_sub_cancel_left]; exact hq, by simp⟩⟩ (fun c9 hc9 => by have := (List.mem_replicate.mp hc9).2; omega)
                refine W.widen (k := cells + (x.toNatClampNeg + 1)) (n := slots + (x.toNatClampNeg + 1)) (by omega) (by omega) ?_
                have hl2 : (znewQ M a x.toNatClampNeg).1.length = M.1.length + 1 := by show (M.1 ++ [_]).length = _; rw [List.length_append]; rfl
                refine ih d y (pc + 3) L (.ref M.1.length :: S0) (znewQ M a x.toNatClampNeg) o M' k' h2 hy p l e R s m args below meth c H1 locs _ _ Q ls (.ref q0 :: st1) D b sz0 sc adK adV _ _ _ Ct Dt C hex hW1 hS1 (zLo_ext hE1 hL) ⟨⟨Or.inl (by rw [hl2]; exact Nat.lt_succ_self _), by simp⟩, zrs_ext hE1 hs1⟩ hRf hRl hCt hDt (by omega) (by omega) ?_ ?_ ?_
                · intro ad2 κ2 tys2 H2 locs2 pc2 ls2 st2 hext2; exact Kret ad2 κ2 tys2 H2 locs2 pc2 ls2 st2 (zExt_tr hE1 hext2)
                · intro k9 ad2 κ2 tys2 H2 locs2 pc2 ls2 st2 c2 s2 k0 b0 is0 ic0 ho9 hext2; exact Kthr k9 ad2 κ2 tys2 H2 locs2 pc2 ls2 st2 c2 s2 k0 b0 is0 ic0 ho9 (zExt_tr hE1 hext2)
                · intro k9 ce9 q10 ad2 κ2 tys2 H2 locs2 pc2 ls2 st2 ho9 hk9 hext2; exact Kx k9 ce9 q10 ad2 κ2 tys2 H2 locs2 pc2 ls2 st2 ho9 hk9 (zExt_tr hE1 hext2)
              · cases hX
          · cases h
        | invokevirtual k => exact call _ _ _ _ _ _ rfl (Or.inl ⟨k, rfl⟩) rfl h
        | invokestatic k => exact call _ _ _ _ _ _ rfl (Or.inr (Or.inl ⟨k, rfl⟩)) rfl h
        | invokespecial k => exact call _ _ _ _ _ _ rfl (Or.inr (Or.inr ⟨k, rfl⟩)) rfl h
        | _ => exact absurd h (by simp [zfin])
