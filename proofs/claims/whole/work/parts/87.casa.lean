/-! ===== the law's cases ===== -/
def lw (N : Nat) (xs : Nat → Int32) (pc : Nat) (L S : List Value) (J : zJ) (lg : Nat → Nat → Int64) (B : Nat) : Prop := ∃ J' lg' u, hx N xs 385 pc L S J lg 1 J' lg' u ∧ u ≤ B
theorem r353_ok : (Value.ref 353) ≠ .ref 1000000 := by
  intro h
  injection h with h
  exact absurd (show (353 : Nat) = 1000000 from h) (by decide)
theorem fl_ok {x : Nat} : (Value.float 0) ≠ .ref x := by
  intro h
  cases h
theorem mtc_b {hm : List Nat} {o : zO} {th v : Int} (h : mtc hm o th v) (hl : hm.length ≤ 9) : 0 ≤ th ∧ th ≤ 10 := by
  rcases h with ⟨-, rfl⟩ | ⟨i, E, hi, -, rfl⟩
  · exact ⟨Int.le_refl 0, by decide⟩
  · have := (List.getElem?_eq_some_iff.mp hi).1
    omega
theorem mtc_0 {o : zO} {th v : Int} (h : mtc [] o th v) : o = oI v := by
  rcases h with ⟨rfl, -⟩ | ⟨i, E, hi, -, -⟩
  · rfl
  · cases hi
theorem thr_run {W : zW} {J : zJ} : ∀ Q : zO → zI → Prop, wz W 175 0 [.ref 353] [] (jm J) Q = Q (oI (J 353 0)) (jm J) := by
  intro Q
  rw [sg_175_0]
  rfl
section
variable {N : Nat} {xs : Nat → Int32} {i B : Nat} {J : zJ} {lg : Nat → Nat → Int64} {k : Int} {X5 X6 : Value}
theorem hx_n1' {y pc l a b c w : Nat} {L S : List Value} {J' : zJ} {lg' : Nat → Nat → Int64} {r : Int32} {u : Nat} {x : Int32} {off : Int} (hf : zfet (zT y) pc = some (.ifCond .ne off, l, a, b, c, w)) (hx0 : x = 0) (g : hx N xs y (pc + 3) L S J lg r J' lg' u) : hx N xs y pc L (.int x :: S) J lg r J' lg' u := by
  rw [hx0]
  exact hx_n1 hf g
/-- append -/
theorem cs_0 (hi : i + 6 ≤ N) (hN : N ≤ 3072) (g : GC J J) (t : GT k J) (k0 : 0 ≤ k) (k1 : k ≤ 21500) (nx : ∀ J' lg' Y5 Y6, GC J' J' → GT (k + 42) J' → lw N xs 3265 [.ref 1000000, .ref 0, .ref 353, .ref 363, .int (jI (i : Int)), Y5, Y6] [] J' lg' B) : lw N xs 296 [.ref 1000000, .ref 0, .ref 353, .ref 363, .int (jI (i : Int)), X5, X6] [] J lg (B + 6) := by
  have hop : Op (lg, N, xs) k [2] 99 180 [.ref 0, .int (xs (i + 1)), .int (xs (i + 2)), .int (xs (i + 3)), .int (xs (i + 4)), .int (xs (i + 5)), .float 0] [.ref 353, .int (xs (i + 1)), .int (xs (i + 2)), .int (xs (i + 3)), .int (xs (i + 4)), .int (xs (i + 5)), .float 0, .float 0, .float 0] := op_append (fun j => xs (i + 1 + j))
  obtain ⟨o, J1, v, J2, h1, h2, gc, gt, mt⟩ := hop J g t
  obtain ⟨lg1, u1, hh, hu, hv⟩ := hp_340 (J1 := J1) (z0 := xs (i + 1)) (z1 := xs (i + 2)) (z2 := xs (i + 3)) (z3 := xs (i + 4)) (z4 := xs (i + 5)) h1 mt
  have tb := mtc_b mt (by decide)
  obtain ⟨J9, lg9, u9, h9, b9⟩ := nx J2 lg1 (.int (jI (J2 353 0))) (.int (jI v)) gc gt
  refine ⟨J9, lg9, u1 + (0 + (0 + u9)), ?_, by omega⟩
  refine hx_go 5 (pc' := 302) (L' := [.ref 1000000, .ref 0, .ref 353, .ref 363, .int (jI (i : Int)), X5, X6]) (S' := [.int (jI (i : Int) + Int32.ofInt 1), .ref 1000000, .ref 0]) rfl ?_
  refine hx_scj 1 rfl rfl (by omega) hN ?_
  refine hx_go 4 (pc' := 308) (L' := [.ref 1000000, .ref 0, .ref 353, .ref 363, .int (jI (i : Int)), X5, X6]) (S' := [.int (jI (i : Int) + Int32.ofInt 2), .ref 1000000, .int (xs (i + 1)), .ref 0]) rfl ?_
  refine hx_scj 2 rfl rfl (by omega) hN ?_
  refine hx_go 4 (pc' := 314) (L' := [.ref 1000000, .ref 0, .ref 353, .ref 363, .int (jI (i : Int)), X5, X6]) (S' := [.int (jI (i : Int) + Int32.ofInt 3), .ref 1000000, .int (xs (i + 2)), .int (xs (i + 1)), .ref 0]) rfl ?_
  refine hx_scj 3 rfl rfl (by omega) hN ?_
  refine hx_go 4 (pc' := 320) (L' := [.ref 1000000, .ref 0, .ref 353, .ref 363, .int (jI (i : Int)), X5, X6]) (S' := [.int (jI (i : Int) + Int32.ofInt 4), .ref 1000000, .int (xs (i + 3)), .int (xs (i + 2)), .int (xs (i + 1)), .ref 0]) rfl ?_
  refine hx_scj 4 rfl rfl (by omega) hN ?_
  refine hx_go 4 (pc' := 326) (L' := [.ref 1000000, .ref 0, .ref 353, .ref 363, .int (jI (i : Int)), X5, X6]) (S' := [.int (jI (i : Int) + Int32.ofInt 5), .ref 1000000, .int (xs (i + 4)), .int (xs (i + 3)), .int (xs (i + 2)), .int (xs (i + 1)), .ref 0]) rfl ?_
  refine hx_scj 5 rfl rfl (by omega) hN ?_
  refine hx_go 1 (pc' := 328) (L' := [.ref 1000000, .ref 0, .ref 353, .ref 363, .int (jI (i : Int)), X5, X6]) (S' := [.ref 363, .int (xs (i + 5)), .int (xs (i + 4)), .int (xs (i + 3)), .int (xs (i + 2)), .int (xs (i + 1)), .ref 0]) rfl ?_
  refine hx_ok (a := 340) (b := 7) (as := [.ref 0, .int (xs (i + 1)), .int (xs (i + 2)), .int (xs (i + 3)), .int (xs (i + 4)), .int (xs (i + 5)), .ref 363]) (S' := []) rfl rfl (fun _ _ => rfl) (by decide) rfl rfl hh ?_
  refine hx_go 6 (pc' := 339) (L' := [.ref 1000000, .ref 0, .ref 353, .ref 363, .int (jI (i : Int)), .int (jI (J2 353 0)), X6]) (S' := [.int (jI (i : Int) + Int32.ofInt 1), .ref 1000000, .ref 353]) rfl ?_
  refine hx_scj 1 rfl rfl (by omega) hN ?_
  refine hx_go 4 (pc' := 345) (L' := [.ref 1000000, .ref 0, .ref 353, .ref 363, .int (jI (i : Int)), .int (jI (J2 353 0)), X6]) (S' := [.int (jI (i : Int) + Int32.ofInt 2), .ref 1000000, .int (xs (i + 1)), .ref 353]) rfl ?_
  refine hx_scj 2 rfl rfl (by omega) hN ?_
  refine hx_go 4 (pc' := 351) (L' := [.ref 1000000, .ref 0, .ref 353, .ref 363, .int (jI (i : Int)), .int (jI (J2 353 0)), X6]) (S' := [.int (jI (i : Int) + Int32.ofInt 3), .ref 1000000, .int (xs (i + 2)), .int (xs (i + 1)), .ref 353]) rfl ?_
  refine hx_scj 3 rfl rfl (by omega) hN ?_
  refine hx_go 4 (pc' := 357) (L' := [.ref 1000000, .ref 0, .ref 353, .ref 363, .int (jI (i : Int)), .int (jI (J2 353 0)), X6]) (S' := [.int (jI (i : Int) + Int32.ofInt 4), .ref 1000000, .int (xs (i + 3)), .int (xs (i + 2)), .int (xs (i + 1)), .ref 353]) rfl ?_
  refine hx_scj 4 rfl rfl (by omega) hN ?_
  refine hx_go 4 (pc' := 363) (L' := [.ref 1000000, .ref 0, .ref 353, .ref 363, .int (jI (i : Int)), .int (jI (J2 353 0)), X6]) (S' := [.int (jI (i : Int) + Int32.ofInt 5), .ref 1000000, .int (xs (i + 4)), .int (xs (i + 3)), .int (xs (i + 2)), .int (xs (i + 1)), .ref 353]) rfl ?_
  refine hx_scj 5 rfl rfl (by omega) hN ?_
  refine hx_ok (a := 180) (b := 5) (as := [.ref 353, .int (xs (i + 1)), .int (xs (i + 2)), .int (xs (i + 3)), .int (xs (i + 4)), .int (xs (i + 5))]) (S' := []) rfl rfl (fun _ _ => rfl) (by decide) (zargI_ok rfl (zrecv_of (ci := 10) (by decide) h_353)) rfl (run_W (by decide) (by repeat' first | exact cln_n | apply cln_i | exact cln_c r353_ok cln_n | apply cln_c r353_ok | apply cln_c fl_ok) h2) ?_
  refine hx_go 2 (pc' := 370) (L' := [.ref 1000000, .ref 0, .ref 353, .ref 363, .int (jI (i : Int)), .int (jI (J2 353 0)), .int (jI v)]) (S' := [.ref 353]) rfl ?_
  refine hx_ok (a := 175) (b := 0) (as := [.ref 353]) (S' := []) rfl rfl (fun _ _ => rfl) (by decide) (zargI_ok rfl (zrecv_of (ci := 10) (by decide) h_353)) rfl (run_of thr_run) ?_
  refine hx_go 1 (pc' := 375) (L' := [.ref 1000000, .ref 0, .ref 353, .ref 363, .int (jI (i : Int)), .int (jI (J2 353 0)), .int (jI v)]) (S' := [.int (jI (J2 353 0)), .int (jI (J2 353 0))]) rfl ?_
  refine hx_ic rfl ?_
  refine hx_go 1 (pc' := 382) (L' := [.ref 1000000, .ref 0, .ref 353, .ref 363, .int (jI (i : Int)), .int (jI (J2 353 0)), .int (jI v)]) (S' := [.int (jI (J2 353 0))]) rfl ?_
  by_cases h0 : J2 353 0 = 0
  · refine hx_n1' rfl (by rw [h0]; rfl) ?_
    refine hx_go 2 (pc' := 387) (L' := [.ref 1000000, .ref 0, .ref 353, .ref 363, .int (jI (i : Int)), .int (jI (J2 353 0)), .int (jI v)]) (S' := [.int (Int32.ofInt 0), .ref 363]) rfl ?_
    refine hx_ll rfl ?_
    rw [hv h0]
    refine hx_go 2 (pc' := 391) (L' := [.ref 1000000, .ref 0, .ref 353, .ref 363, .int (jI (i : Int)), .int (jI (J2 353 0)), .int (jI v)]) (S' := [.long (jI v).toInt64, .long (jI v).toInt64]) rfl ?_
    refine hx_lc rfl rfl ?_
    refine hx_go 1 (pc' := 3265) (L' := [.ref 1000000, .ref 0, .ref 353, .ref 363, .int (jI (i : Int)), .int (jI (J2 353 0)), .int (jI v)]) (S' := []) rfl ?_
    exact h9
  · refine hx_n0 rfl (by rw [ne_eq, jI_eq0 (by omega) (by omega)]; exact h0) ?_
    refine hx_go 1 (pc' := 3265) (L' := [.ref 1000000, .ref 0, .ref 353, .ref 363, .int (jI (i : Int)), .int (jI (J2 353 0)), .int (jI v)]) (S' := []) rfl ?_
    exact h9
/-- truncate -/
theorem cs_1 (hi : i + 6 ≤ N) (hN : N ≤ 3072) (g : GC J J) (t : GT k J) (k0 : 0 ≤ k) (k1 : k ≤ 21500) (nx : ∀ J' lg' Y5 Y6, GC J' J' → GT (k + 42) J' → lw N xs 3265 [.ref 1000000, .ref 0, .ref 353, .ref 363, .int (jI (i : Int)), Y5, Y6] [] J' lg' B) : lw N xs 400 [.ref 1000000, .ref 0, .ref 353, .ref 363, .int (jI (i : Int)), X5, X6] [] J lg (B + 6) := by
  have hop : Op (lg, N, xs) k [1] 100 181 [.ref 0, .int (jI (xs (i + 1)).toInt)] [.ref 353, .int (jI (xs (i + 1)).toInt)] := op_truncate (jI_lo _) (jI_hi _)
  obtain ⟨o, J1, v, J2, h1, h2, gc, gt, mt⟩ := hop J g t
  simp only [jI_of] at h1 h2
  obtain ⟨lg1, u1, hh, hu, hv⟩ := hp_341 (J1 := J1) (z0 := xs (i + 1)) h1 mt
  have tb := mtc_b mt (by decide)
  obtain ⟨J9, lg9, u9, h9, b9⟩ := nx J2 lg1 (.int (jI (J2 353 0))) (.int (jI v)) gc gt
  refine ⟨J9, lg9, u1 + (0 + (0 + u9)), ?_, by omega⟩
  refine hx_go 5 (pc' := 406) (L' := [.ref 1000000, .ref 0, .ref 353, .ref 363, .int (jI (i : Int)), X5, X6]) (S' := [.int (jI (i : Int) + Int32.ofInt 1), .ref 1000000, .ref 0]) rfl ?_
  refine hx_scj 1 rfl rfl (by omega) hN ?_
  refine hx_go 1 (pc' := 408) (L' := [.ref 1000000, .ref 0, .ref 353, .ref 363, .int (jI (i : Int)), X5, X6]) (S' := [.ref 363, .int (xs (i + 1)), .ref 0]) rfl ?_
  refine hx_ok (a := 341) (b := 3) (as := [.ref 0, .int (xs (i + 1)), .ref 363]) (S' := []) rfl rfl (fun _ _ => rfl) (by decide) rfl rfl hh ?_
  refine hx_go 6 (pc' := 419) (L' := [.ref 1000000, .ref 0, .ref 353, .ref 363, .int (jI (i : Int)), .int (jI (J2 353 0)), X6]) (S' := [.int (jI (i : Int) + Int32.ofInt 1), .ref 1000000, .ref 353]) rfl ?_
  refine hx_scj 1 rfl rfl (by omega) hN ?_
  refine hx_ok (a := 181) (b := 1) (as := [.ref 353, .int (xs (i + 1))]) (S' := []) rfl rfl (fun _ _ => rfl) (by decide) (zargI_ok rfl (zrecv_of (ci := 10) (by decide) h_353)) rfl (run_W (by decide) (by repeat' first | exact cln_n | apply cln_i | exact cln_c r353_ok cln_n | apply cln_c r353_ok | apply cln_c fl_ok) h2) ?_
  refine hx_go 2 (pc' := 426) (L' := [.ref 1000000, .ref 0, .ref 353, .ref 363, .int (jI (i : Int)), .int (jI (J2 353 0)), .int (jI v)]) (S' := [.ref 353]) rfl ?_
  refine hx_ok (a := 175) (b := 0) (as := [.ref 353]) (S' := []) rfl rfl (fun _ _ => rfl) (by decide) (zargI_ok rfl (zrecv_of (ci := 10) (by decide) h_353)) rfl (run_of thr_run) ?_
  refine hx_go 1 (pc' := 431) (L' := [.ref 1000000, .ref 0, .ref 353, .ref 363, .int (jI (i : Int)), .int (jI (J2 353 0)), .int (jI v)]) (S' := [.int (jI (J2 353 0)), .int (jI (J2 353 0))]) rfl ?_
  refine hx_ic rfl ?_
  refine hx_go 1 (pc' := 438) (L' := [.ref 1000000, .ref 0, .ref 353, .ref 363, .int (jI (i : Int)), .int (jI (J2 353 0)), .int (jI v)]) (S' := [.int (jI (J2 353 0))]) rfl ?_
  by_cases h0 : J2 353 0 = 0
  · refine hx_n1' rfl (by rw [h0]; rfl) ?_
    refine hx_go 2 (pc' := 443) (L' := [.ref 1000000, .ref 0, .ref 353, .ref 363, .int (jI (i : Int)), .int (jI (J2 353 0)), .int (jI v)]) (S' := [.int (Int32.ofInt 0), .ref 363]) rfl ?_
    refine hx_ll rfl ?_
    rw [hv h0]
    refine hx_go 2 (pc' := 447) (L' := [.ref 1000000, .ref 0, .ref 353, .ref 363, .int (jI (i : Int)), .int (jI (J2 353 0)), .int (jI v)]) (S' := [.long (jI v).toInt64, .long (jI v).toInt64]) rfl ?_
    refine hx_lc rfl rfl ?_
    refine hx_go 1 (pc' := 3265) (L' := [.ref 1000000, .ref 0, .ref 353, .ref 363, .int (jI (i : Int)), .int (jI (J2 353 0)), .int (jI v)]) (S' := []) rfl ?_
    exact h9
  · refine hx_n0 rfl (by rw [ne_eq, jI_eq0 (by omega) (by omega)]; exact h0) ?_
    refine hx_go 1 (pc' := 3265) (L' := [.ref 1000000, .ref 0, .ref 353, .ref 363, .int (jI (i : Int)), .int (jI (J2 353 0)), .int (jI v)]) (S' := []) rfl ?_
    exact h9
/-- errorPosition -/
theorem cs_2 (hi : i + 6 ≤ N) (hN : N ≤ 3072) (g : GC J J) (t : GT k J) (k0 : 0 ≤ k) (k1 : k ≤ 21500) (nx : ∀ J' lg' Y5 Y6, GC J' J' → GT (k + 42) J' → lw N xs 3265 [.ref 1000000, .ref 0, .ref 353, .ref 363, .int (jI (i : Int)), Y5, Y6] [] J' lg' B) : lw N xs 456 [.ref 1000000, .ref 0, .ref 353, .ref 363, .int (jI (i : Int)), X5, X6] [] J lg (B + 6) := by
  have hop : Op (lg, N, xs) k [] 101 213 [.ref 0] [.ref 353] := op_errorPosition 
  obtain ⟨o, J1, v, J2, h1, h2, gc, gt, mt⟩ := hop J g t
  have ho := mtc_0 mt
  subst ho
  obtain ⟨J9, lg9, u9, h9, b9⟩ := nx J2 lg X5 X6 gc gt
  refine ⟨J9, lg9, 0 + (0 + u9), ?_, by omega⟩
  refine hx_go 1 (pc' := 457) (L' := [.ref 1000000, .ref 0, .ref 353, .ref 363, .int (jI (i : Int)), X5, X6]) (S' := [.ref 0]) rfl ?_
  refine hx_ok (a := 101) (b := 0) (as := [.ref 0]) (S' := []) rfl rfl (fun _ _ => rfl) (by decide) (zargI_ok rfl (zrecv_of (ci := 9) (by decide) h_0)) rfl (run_of h1) ?_
  refine hx_go 1 (pc' := 461) (L' := [.ref 1000000, .ref 0, .ref 353, .ref 363, .int (jI (i : Int)), X5, X6]) (S' := [.ref 353, .int (jI v)]) rfl ?_
  refine hx_ok (a := 213) (b := 0) (as := [.ref 353]) (S' := [.int (jI v)]) rfl rfl (fun _ _ => rfl) (by decide) (zargI_ok rfl (zrecv_of (ci := 10) (by decide) h_353)) rfl (run_of h2) ?_
  refine hx_ic rfl ?_
  exact h9
/-- load -/
theorem cs_3 (hi : i + 6 ≤ N) (hN : N ≤ 3072) (g : GC J J) (t : GT k J) (k0 : 0 ≤ k) (k1 : k ≤ 21500) (nx : ∀ J' lg' Y5 Y6, GC J' J' → GT (k + 42) J' → lw N xs 3265 [.ref 1000000, .ref 0, .ref 353, .ref 363, .int (jI (i : Int)), Y5, Y6] [] J' lg' B) : lw N xs 469 [.ref 1000000, .ref 0, .ref 353, .ref 363, .int (jI (i : Int)), X5, X6] [] J lg (B + 6) := by
  have hop : Op (lg, N, xs) k [1] 102 214 [.ref 0] [.ref 353] := op_load (by omega)
  obtain ⟨o, J1, v, J2, h1, h2, gc, gt, mt⟩ := hop J g t
  obtain ⟨lg1, u1, hh, hu, hv⟩ := hp_342 (J1 := J1)  h1 mt
  have tb := mtc_b mt (by decide)
  obtain ⟨J9, lg9, u9, h9, b9⟩ := nx J2 lg1 (.int (jI (J2 353 0))) (.int (jI v)) gc gt
  refine ⟨J9, lg9, u1 + (0 + (0 + u9)), ?_, by omega⟩
  refine hx_go 2 (pc' := 471) (L' := [.ref 1000000, .ref 0, .ref 353, .ref 363, .int (jI (i : Int)), X5, X6]) (S' := [.ref 363, .ref 0]) rfl ?_
  refine hx_ok (a := 342) (b := 2) (as := [.ref 0, .ref 363]) (S' := []) rfl rfl (fun _ _ => rfl) (by decide) rfl rfl hh ?_
  refine hx_go 2 (pc' := 477) (L' := [.ref 1000000, .ref 0, .ref 353, .ref 363, .int (jI (i : Int)), .int (jI (J2 353 0)), X6]) (S' := [.ref 353]) rfl ?_
  refine hx_ok (a := 214) (b := 0) (as := [.ref 353]) (S' := []) rfl rfl (fun _ _ => rfl) (by decide) (zargI_ok rfl (zrecv_of (ci := 10) (by decide) h_353)) rfl (run_W (by decide) (by repeat' first | exact cln_n | apply cln_i | exact cln_c r353_ok cln_n | apply cln_c r353_ok | apply cln_c fl_ok) h2) ?_
  refine hx_go 2 (pc' := 483) (L' := [.ref 1000000, .ref 0, .ref 353, .ref 363, .int (jI (i : Int)), .int (jI (J2 353 0)), .int (jI v)]) (S' := [.ref 353]) rfl ?_
  refine hx_ok (a := 175) (b := 0) (as := [.ref 353]) (S' := []) rfl rfl (fun _ _ => rfl) (by decide) (zargI_ok rfl (zrecv_of (ci := 10) (by decide) h_353)) rfl (run_of thr_run) ?_
  refine hx_go 1 (pc' := 488) (L' := [.ref 1000000, .ref 0, .ref 353, .ref 363, .int (jI (i : Int)), .int (jI (J2 353 0)), .int (jI v)]) (S' := [.int (jI (J2 353 0)), .int (jI (J2 353 0))]) rfl ?_
  refine hx_ic rfl ?_
  refine hx_go 1 (pc' := 495) (L' := [.ref 1000000, .ref 0, .ref 353, .ref 363, .int (jI (i : Int)), .int (jI (J2 353 0)), .int (jI v)]) (S' := [.int (jI (J2 353 0))]) rfl ?_
  by_cases h0 : J2 353 0 = 0
  · refine hx_n1' rfl (by rw [h0]; rfl) ?_
    refine hx_go 2 (pc' := 500) (L' := [.ref 1000000, .ref 0, .ref 353, .ref 363, .int (jI (i : Int)), .int (jI (J2 353 0)), .int (jI v)]) (S' := [.int (Int32.ofInt 0), .ref 363]) rfl ?_
    refine hx_ll rfl ?_
    rw [hv h0]
    refine hx_go 2 (pc' := 504) (L' := [.ref 1000000, .ref 0, .ref 353, .ref 363, .int (jI (i : Int)), .int (jI (J2 353 0)), .int (jI v)]) (S' := [.long (jI v).toInt64, .long (jI v).toInt64]) rfl ?_
    refine hx_lc rfl rfl ?_
    refine hx_go 1 (pc' := 3265) (L' := [.ref 1000000, .ref 0, .ref 353, .ref 363, .int (jI (i : Int)), .int (jI (J2 353 0)), .int (jI v)]) (S' := []) rfl ?_
    exact h9
  · refine hx_n0 rfl (by rw [ne_eq, jI_eq0 (by omega) (by omega)]; exact h0) ?_
    refine hx_go 1 (pc' := 3265) (L' := [.ref 1000000, .ref 0, .ref 353, .ref 363, .int (jI (i : Int)), .int (jI (J2 353 0)), .int (jI v)]) (S' := []) rfl ?_
    exact h9
/-- arrive -/
theorem cs_4 (hi : i + 6 ≤ N) (hN : N ≤ 3072) (g : GC J J) (t : GT k J) (k0 : 0 ≤ k) (k1 : k ≤ 21500) (nx : ∀ J' lg' Y5 Y6, GC J' J' → GT (k + 42) J' → lw N xs 3265 [.ref 1000000, .ref 0, .ref 353, .ref 363, .int (jI (i : Int)), Y5, Y6] [] J' lg' B) : lw N xs 513 [.ref 1000000, .ref 0, .ref 353, .ref 363, .int (jI (i : Int)), X5, X6] [] J lg (B + 6) := by
  have hop : Op (lg, N, xs) k [0, 2] 103 238 [.ref 0, .int (jI (xs (i + 1)).toInt)] [.ref 353, .int (jI (xs (i + 1)).toInt)] := op_arrive (by omega) (jI_lo _) (jI_hi _)
  obtain ⟨o, J1, v, J2, h1, h2, gc, gt, mt⟩ := hop J g t
  simp only [jI_of] at h1 h2
  obtain ⟨lg1, u1, hh, hu, hv⟩ := hp_343 (J1 := J1) (z0 := xs (i + 1)) h1 mt
  have tb := mtc_b mt (by decide)
  obtain ⟨J9, lg9, u9, h9, b9⟩ := nx J2 lg1 (.int (jI (J2 353 0))) (.int (jI v)) gc gt
  refine ⟨J9, lg9, u1 + (0 + (0 + u9)), ?_, by omega⟩
  refine hx_go 5 (pc' := 519) (L' := [.ref 1000000, .ref 0, .ref 353, .ref 363, .int (jI (i : Int)), X5, X6]) (S' := [.int (jI (i : Int) + Int32.ofInt 1), .ref 1000000, .ref 0]) rfl ?_
  refine hx_scj 1 rfl rfl (by omega) hN ?_
  refine hx_go 1 (pc' := 521) (L' := [.ref 1000000, .ref 0, .ref 353, .ref 363, .int (jI (i : Int)), X5, X6]) (S' := [.ref 363, .int (xs (i + 1)), .ref 0]) rfl ?_
  refine hx_ok (a := 343) (b := 3) (as := [.ref 0, .int (xs (i + 1)), .ref 363]) (S' := []) rfl rfl (fun _ _ => rfl) (by decide) rfl rfl hh ?_
  refine hx_go 6 (pc' := 532) (L' := [.ref 1000000, .ref 0, .ref 353, .ref 363, .int (jI (i : Int)), .int (jI (J2 353 0)), X6]) (S' := [.int (jI (i : Int) + Int32.ofInt 1), .ref 1000000, .ref 353]) rfl ?_
  refine hx_scj 1 rfl rfl (by omega) hN ?_
  refine hx_ok (a := 238) (b := 1) (as := [.ref 353, .int (xs (i + 1))]) (S' := []) rfl rfl (fun _ _ => rfl) (by decide) (zargI_ok rfl (zrecv_of (ci := 10) (by decide) h_353)) rfl (run_W (by decide) (by repeat' first | exact cln_n | apply cln_i | exact cln_c r353_ok cln_n | apply cln_c r353_ok | apply cln_c fl_ok) h2) ?_
  refine hx_go 2 (pc' := 539) (L' := [.ref 1000000, .ref 0, .ref 353, .ref 363, .int (jI (i : Int)), .int (jI (J2 353 0)), .int (jI v)]) (S' := [.ref 353]) rfl ?_
  refine hx_ok (a := 175) (b := 0) (as := [.ref 353]) (S' := []) rfl rfl (fun _ _ => rfl) (by decide) (zargI_ok rfl (zrecv_of (ci := 10) (by decide) h_353)) rfl (run_of thr_run) ?_
  refine hx_go 1 (pc' := 544) (L' := [.ref 1000000, .ref 0, .ref 353, .ref 363, .int (jI (i : Int)), .int (jI (J2 353 0)), .int (jI v)]) (S' := [.int (jI (J2 353 0)), .int (jI (J2 353 0))]) rfl ?_
  refine hx_ic rfl ?_
  refine hx_go 1 (pc' := 551) (L' := [.ref 1000000, .ref 0, .ref 353, .ref 363, .int (jI (i : Int)), .int (jI (J2 353 0)), .int (jI v)]) (S' := [.int (jI (J2 353 0))]) rfl ?_
  by_cases h0 : J2 353 0 = 0
  · refine hx_n1' rfl (by rw [h0]; rfl) ?_
    refine hx_go 2 (pc' := 556) (L' := [.ref 1000000, .ref 0, .ref 353, .ref 363, .int (jI (i : Int)), .int (jI (J2 353 0)), .int (jI v)]) (S' := [.int (Int32.ofInt 0), .ref 363]) rfl ?_
    refine hx_ll rfl ?_
    rw [hv h0]
    refine hx_go 2 (pc' := 560) (L' := [.ref 1000000, .ref 0, .ref 353, .ref 363, .int (jI (i : Int)), .int (jI (J2 353 0)), .int (jI v)]) (S' := [.long (jI v).toInt64, .long (jI v).toInt64]) rfl ?_
    refine hx_lc rfl rfl ?_
    refine hx_go 1 (pc' := 3265) (L' := [.ref 1000000, .ref 0, .ref 353, .ref 363, .int (jI (i : Int)), .int (jI (J2 353 0)), .int (jI v)]) (S' := []) rfl ?_
    exact h9
  · refine hx_n0 rfl (by rw [ne_eq, jI_eq0 (by omega) (by omega)]; exact h0) ?_
    refine hx_go 1 (pc' := 3265) (L' := [.ref 1000000, .ref 0, .ref 353, .ref 363, .int (jI (i : Int)), .int (jI (J2 353 0)), .int (jI v)]) (S' := []) rfl ?_
    exact h9
/-- store -/
theorem cs_5 (hi : i + 6 ≤ N) (hN : N ≤ 3072) (g : GC J J) (t : GT k J) (k0 : 0 ≤ k) (k1 : k ≤ 21500) (nx : ∀ J' lg' Y5 Y6, GC J' J' → GT (k + 42) J' → lw N xs 3265 [.ref 1000000, .ref 0, .ref 353, .ref 363, .int (jI (i : Int)), Y5, Y6] [] J' lg' B) : lw N xs 569 [.ref 1000000, .ref 0, .ref 353, .ref 363, .int (jI (i : Int)), X5, X6] [] J lg (B + 6) := by
  have hop : Op (lg, N, xs) k [0, 1, 2] 104 246 [.ref 0, .int (jI (xs (i + 1)).toInt), .int (jI (xs (i + 2)).toInt), .int (jI (xs (i + 3)).toInt), .int (jI (xs (i + 4)).toInt), .float 0, .float 0] [.ref 353, .int (jI (xs (i + 1)).toInt), .int (jI (xs (i + 2)).toInt), .int (jI (xs (i + 3)).toInt), .int (jI (xs (i + 4)).toInt), .float 0, .float 0] := op_store (by omega) (jI_lo _) (jI_hi _) (jI_lo _) (jI_hi _) (jI_lo _) (jI_hi _) (jI_lo _) (jI_hi _)
  obtain ⟨o, J1, v, J2, h1, h2, gc, gt, mt⟩ := hop J g t
  simp only [jI_of] at h1 h2
  obtain ⟨lg1, u1, hh, hu, hv⟩ := hp_344 (J1 := J1) (z0 := xs (i + 1)) (z1 := xs (i + 2)) (z2 := xs (i + 3)) (z3 := xs (i + 4)) h1 mt
  have tb := mtc_b mt (by decide)
  obtain ⟨J9, lg9, u9, h9, b9⟩ := nx J2 lg1 (.int (jI (J2 353 0))) (.int (jI v)) gc gt
  refine ⟨J9, lg9, u1 + (0 + (0 + u9)), ?_, by omega⟩
  refine hx_go 5 (pc' := 575) (L' := [.ref 1000000, .ref 0, .ref 353, .ref 363, .int (jI (i : Int)), X5, X6]) (S' := [.int (jI (i : Int) + Int32.ofInt 1), .ref 1000000, .ref 0]) rfl ?_
  refine hx_scj 1 rfl rfl (by omega) hN ?_
  refine hx_go 4 (pc' := 581) (L' := [.ref 1000000, .ref 0, .ref 353, .ref 363, .int (jI (i : Int)), X5, X6]) (S' := [.int (jI (i : Int) + Int32.ofInt 2), .ref 1000000, .int (xs (i + 1)), .ref 0]) rfl ?_
  refine hx_scj 2 rfl rfl (by omega) hN ?_
  refine hx_go 4 (pc' := 587) (L' := [.ref 1000000, .ref 0, .ref 353, .ref 363, .int (jI (i : Int)), X5, X6]) (S' := [.int (jI (i : Int) + Int32.ofInt 3), .ref 1000000, .int (xs (i + 2)), .int (xs (i + 1)), .ref 0]) rfl ?_
  refine hx_scj 3 rfl rfl (by omega) hN ?_
  refine hx_go 4 (pc' := 593) (L' := [.ref 1000000, .ref 0, .ref 353, .ref 363, .int (jI (i : Int)), X5, X6]) (S' := [.int (jI (i : Int) + Int32.ofInt 4), .ref 1000000, .int (xs (i + 3)), .int (xs (i + 2)), .int (xs (i + 1)), .ref 0]) rfl ?_
  refine hx_scj 4 rfl rfl (by omega) hN ?_
  refine hx_go 1 (pc' := 595) (L' := [.ref 1000000, .ref 0, .ref 353, .ref 363, .int (jI (i : Int)), X5, X6]) (S' := [.ref 363, .int (xs (i + 4)), .int (xs (i + 3)), .int (xs (i + 2)), .int (xs (i + 1)), .ref 0]) rfl ?_
  refine hx_ok (a := 344) (b := 6) (as := [.ref 0, .int (xs (i + 1)), .int (xs (i + 2)), .int (xs (i + 3)), .int (xs (i + 4)), .ref 363]) (S' := []) rfl rfl (fun _ _ => rfl) (by decide) rfl rfl hh ?_
  refine hx_go 6 (pc' := 606) (L' := [.ref 1000000, .ref 0, .ref 353, .ref 363, .int (jI (i : Int)), .int (jI (J2 353 0)), X6]) (S' := [.int (jI (i : Int) + Int32.ofInt 1), .ref 1000000, .ref 353]) rfl ?_
  refine hx_scj 1 rfl rfl (by omega) hN ?_
  refine hx_go 4 (pc' := 612) (L' := [.ref 1000000, .ref 0, .ref 353, .ref 363, .int (jI (i : Int)), .int (jI (J2 353 0)), X6]) (S' := [.int (jI (i : Int) + Int32.ofInt 2), .ref 1000000, .int (xs (i + 1)), .ref 353]) rfl ?_
  refine hx_scj 2 rfl rfl (by omega) hN ?_
  refine hx_go 4 (pc' := 618) (L' := [.ref 1000000, .ref 0, .ref 353, .ref 363, .int (jI (i : Int)), .int (jI (J2 353 0)), X6]) (S' := [.int (jI (i : Int) + Int32.ofInt 3), .ref 1000000, .int (xs (i + 2)), .int (xs (i + 1)), .ref 353]) rfl ?_
  refine hx_scj 3 rfl rfl (by omega) hN ?_
  refine hx_go 4 (pc' := 624) (L' := [.ref 1000000, .ref 0, .ref 353, .ref 363, .int (jI (i : Int)), .int (jI (J2 353 0)), X6]) (S' := [.int (jI (i : Int) + Int32.ofInt 4), .ref 1000000, .int (xs (i + 3)), .int (xs (i + 2)), .int (xs (i + 1)), .ref 353]) rfl ?_
  refine hx_scj 4 rfl rfl (by omega) hN ?_
  refine hx_ok (a := 246) (b := 4) (as := [.ref 353, .int (xs (i + 1)), .int (xs (i + 2)), .int (xs (i + 3)), .int (xs (i + 4))]) (S' := []) rfl rfl (fun _ _ => rfl) (by decide) (zargI_ok rfl (zrecv_of (ci := 10) (by decide) h_353)) rfl (run_W (by decide) (by repeat' first | exact cln_n | apply cln_i | exact cln_c r353_ok cln_n | apply cln_c r353_ok | apply cln_c fl_ok) h2) ?_
  refine hx_go 2 (pc' := 631) (L' := [.ref 1000000, .ref 0, .ref 353, .ref 363, .int (jI (i : Int)), .int (jI (J2 353 0)), .int (jI v)]) (S' := [.ref 353]) rfl ?_
  refine hx_ok (a := 175) (b := 0) (as := [.ref 353]) (S' := []) rfl rfl (fun _ _ => rfl) (by decide) (zargI_ok rfl (zrecv_of (ci := 10) (by decide) h_353)) rfl (run_of thr_run) ?_
  refine hx_go 1 (pc' := 636) (L' := [.ref 1000000, .ref 0, .ref 353, .ref 363, .int (jI (i : Int)), .int (jI (J2 353 0)), .int (jI v)]) (S' := [.int (jI (J2 353 0)), .int (jI (J2 353 0))]) rfl ?_
  refine hx_ic rfl ?_
  refine hx_go 1 (pc' := 643) (L' := [.ref 1000000, .ref 0, .ref 353, .ref 363, .int (jI (i : Int)), .int (jI (J2 353 0)), .int (jI v)]) (S' := [.int (jI (J2 353 0))]) rfl ?_
  by_cases h0 : J2 353 0 = 0
  · refine hx_n1' rfl (by rw [h0]; rfl) ?_
    refine hx_go 2 (pc' := 648) (L' := [.ref 1000000, .ref 0, .ref 353, .ref 363, .int (jI (i : Int)), .int (jI (J2 353 0)), .int (jI v)]) (S' := [.int (Int32.ofInt 0), .ref 363]) rfl ?_
    refine hx_ll rfl ?_
    rw [hv h0]
    refine hx_go 2 (pc' := 652) (L' := [.ref 1000000, .ref 0, .ref 353, .ref 363, .int (jI (i : Int)), .int (jI (J2 353 0)), .int (jI v)]) (S' := [.long (jI v).toInt64, .long (jI v).toInt64]) rfl ?_
    refine hx_lc rfl rfl ?_
    refine hx_go 1 (pc' := 3265) (L' := [.ref 1000000, .ref 0, .ref 353, .ref 363, .int (jI (i : Int)), .int (jI (J2 353 0)), .int (jI v)]) (S' := []) rfl ?_
    exact h9
  · refine hx_n0 rfl (by rw [ne_eq, jI_eq0 (by omega) (by omega)]; exact h0) ?_
    refine hx_go 1 (pc' := 3265) (L' := [.ref 1000000, .ref 0, .ref 353, .ref 363, .int (jI (i : Int)), .int (jI (J2 353 0)), .int (jI v)]) (S' := []) rfl ?_
    exact h9
/-- retrieve -/
theorem cs_6 (hi : i + 6 ≤ N) (hN : N ≤ 3072) (g : GC J J) (t : GT k J) (k0 : 0 ≤ k) (k1 : k ≤ 21500) (nx : ∀ J' lg' Y5 Y6, GC J' J' → GT (k + 42) J' → lw N xs 3265 [.ref 1000000, .ref 0, .ref 353, .ref 363, .int (jI (i : Int)), Y5, Y6] [] J' lg' B) : lw N xs 661 [.ref 1000000, .ref 0, .ref 353, .ref 363, .int (jI (i : Int)), X5, X6] [] J lg (B + 6) := by
  have hop : Op (lg, N, xs) k [0, 2] 105 247 [.ref 0, .int (jI (xs (i + 1)).toInt), .float 0] [.ref 353, .int (jI (xs (i + 1)).toInt), .float 0] := op_retrieve (by omega) (jI_lo _) (jI_hi _)
  obtain ⟨o, J1, v, J2, h1, h2, gc, gt, mt⟩ := hop J g t
  simp only [jI_of] at h1 h2
  obtain ⟨lg1, u1, hh, hu, hv⟩ := hp_345 (J1 := J1) (z0 := xs (i + 1)) h1 mt
  have tb := mtc_b mt (by decide)
  obtain ⟨J9, lg9, u9, h9, b9⟩ := nx J2 lg1 (.int (jI (J2 353 0))) (.int (jI v)) gc gt
  refine ⟨J9, lg9, u1 + (0 + (0 + u9)), ?_, by omega⟩
  refine hx_go 5 (pc' := 667) (L' := [.ref 1000000, .ref 0, .ref 353, .ref 363, .int (jI (i : Int)), X5, X6]) (S' := [.int (jI (i : Int) + Int32.ofInt 1), .ref 1000000, .ref 0]) rfl ?_
  refine hx_scj 1 rfl rfl (by omega) hN ?_
  refine hx_go 1 (pc' := 669) (L' := [.ref 1000000, .ref 0, .ref 353, .ref 363, .int (jI (i : Int)), X5, X6]) (S' := [.ref 363, .int (xs (i + 1)), .ref 0]) rfl ?_
  refine hx_ok (a := 345) (b := 3) (as := [.ref 0, .int (xs (i + 1)), .ref 363]) (S' := []) rfl rfl (fun _ _ => rfl) (by decide) rfl rfl hh ?_
  refine hx_go 6 (pc' := 680) (L' := [.ref 1000000, .ref 0, .ref 353, .ref 363, .int (jI (i : Int)), .int (jI (J2 353 0)), X6]) (S' := [.int (jI (i : Int) + Int32.ofInt 1), .ref 1000000, .ref 353]) rfl ?_
  refine hx_scj 1 rfl rfl (by omega) hN ?_
  refine hx_ok (a := 247) (b := 1) (as := [.ref 353, .int (xs (i + 1))]) (S' := []) rfl rfl (fun _ _ => rfl) (by decide) (zargI_ok rfl (zrecv_of (ci := 10) (by decide) h_353)) rfl (run_W (by decide) (by repeat' first | exact cln_n | apply cln_i | exact cln_c r353_ok cln_n | apply cln_c r353_ok | apply cln_c fl_ok) h2) ?_
  refine hx_go 2 (pc' := 687) (L' := [.ref 1000000, .ref 0, .ref 353, .ref 363, .int (jI (i : Int)), .int (jI (J2 353 0)), .int (jI v)]) (S' := [.ref 353]) rfl ?_
  refine hx_ok (a := 175) (b := 0) (as := [.ref 353]) (S' := []) rfl rfl (fun _ _ => rfl) (by decide) (zargI_ok rfl (zrecv_of (ci := 10) (by decide) h_353)) rfl (run_of thr_run) ?_
  refine hx_go 1 (pc' := 692) (L' := [.ref 1000000, .ref 0, .ref 353, .ref 363, .int (jI (i : Int)), .int (jI (J2 353 0)), .int (jI v)]) (S' := [.int (jI (J2 353 0)), .int (jI (J2 353 0))]) rfl ?_
  refine hx_ic rfl ?_
  refine hx_go 1 (pc' := 699) (L' := [.ref 1000000, .ref 0, .ref 353, .ref 363, .int (jI (i : Int)), .int (jI (J2 353 0)), .int (jI v)]) (S' := [.int (jI (J2 353 0))]) rfl ?_
  by_cases h0 : J2 353 0 = 0
  · refine hx_n1' rfl (by rw [h0]; rfl) ?_
    refine hx_go 2 (pc' := 704) (L' := [.ref 1000000, .ref 0, .ref 353, .ref 363, .int (jI (i : Int)), .int (jI (J2 353 0)), .int (jI v)]) (S' := [.int (Int32.ofInt 0), .ref 363]) rfl ?_
    refine hx_ll rfl ?_
    rw [hv h0]
    refine hx_go 2 (pc' := 708) (L' := [.ref 1000000, .ref 0, .ref 353, .ref 363, .int (jI (i : Int)), .int (jI (J2 353 0)), .int (jI v)]) (S' := [.long (jI v).toInt64, .long (jI v).toInt64]) rfl ?_
    refine hx_lc rfl rfl ?_
    refine hx_go 1 (pc' := 3265) (L' := [.ref 1000000, .ref 0, .ref 353, .ref 363, .int (jI (i : Int)), .int (jI (J2 353 0)), .int (jI v)]) (S' := []) rfl ?_
    exact h9
  · refine hx_n0 rfl (by rw [ne_eq, jI_eq0 (by omega) (by omega)]; exact h0) ?_
    refine hx_go 1 (pc' := 3265) (L' := [.ref 1000000, .ref 0, .ref 353, .ref 363, .int (jI (i : Int)), .int (jI (J2 353 0)), .int (jI v)]) (S' := []) rfl ?_
    exact h9
/-- shift -/
theorem cs_7 (hi : i + 6 ≤ N) (hN : N ≤ 3072) (g : GC J J) (t : GT k J) (k0 : 0 ≤ k) (k1 : k ≤ 21500) (nx : ∀ J' lg' Y5 Y6, GC J' J' → GT (k + 42) J' → lw N xs 3265 [.ref 1000000, .ref 0, .ref 353, .ref 363, .int (jI (i : Int)), Y5, Y6] [] J' lg' B) : lw N xs 717 [.ref 1000000, .ref 0, .ref 353, .ref 363, .int (jI (i : Int)), X5, X6] [] J lg (B + 6) := by
  have hop : Op (lg, N, xs) k [0, 1, 2] 106 249 [.ref 0, .int (jI (xs (i + 1)).toInt), .int (jI (xs (i + 2)).toInt), .int (jI (xs (i + 3)).toInt), .float 0, .float 0, .float 0] [.ref 353, .int (jI (xs (i + 1)).toInt), .int (jI (xs (i + 2)).toInt), .int (jI (xs (i + 3)).toInt), .float 0, .float 0, .float 0] := op_shift (by omega) (jI_lo _) (jI_hi _) (jI_lo _) (jI_hi _) (jI_lo _) (jI_hi _)
  obtain ⟨o, J1, v, J2, h1, h2, gc, gt, mt⟩ := hop J g t
  simp only [jI_of] at h1 h2
  obtain ⟨lg1, u1, hh, hu, hv⟩ := hp_346 (J1 := J1) (z0 := xs (i + 1)) (z1 := xs (i + 2)) (z2 := xs (i + 3)) h1 mt
  have tb := mtc_b mt (by decide)
  obtain ⟨J9, lg9, u9, h9, b9⟩ := nx J2 lg1 (.int (jI (J2 353 0))) (.int (jI v)) gc gt
  refine ⟨J9, lg9, u1 + (0 + (0 + u9)), ?_, by omega⟩
  refine hx_go 5 (pc' := 723) (L' := [.ref 1000000, .ref 0, .ref 353, .ref 363, .int (jI (i : Int)), X5, X6]) (S' := [.int (jI (i : Int) + Int32.ofInt 1), .ref 1000000, .ref 0]) rfl ?_
  refine hx_scj 1 rfl rfl (by omega) hN ?_
  refine hx_go 4 (pc' := 729) (L' := [.ref 1000000, .ref 0, .ref 353, .ref 363, .int (jI (i : Int)), X5, X6]) (S' := [.int (jI (i : Int) + Int32.ofInt 2), .ref 1000000, .int (xs (i + 1)), .ref 0]) rfl ?_
  refine hx_scj 2 rfl rfl (by omega) hN ?_
  refine hx_go 4 (pc' := 735) (L' := [.ref 1000000, .ref 0, .ref 353, .ref 363, .int (jI (i : Int)), X5, X6]) (S' := [.int (jI (i : Int) + Int32.ofInt 3), .ref 1000000, .int (xs (i + 2)), .int (xs (i + 1)), .ref 0]) rfl ?_
  refine hx_scj 3 rfl rfl (by omega) hN ?_
  refine hx_go 1 (pc' := 737) (L' := [.ref 1000000, .ref 0, .ref 353, .ref 363, .int (jI (i : Int)), X5, X6]) (S' := [.ref 363, .int (xs (i + 3)), .int (xs (i + 2)), .int (xs (i + 1)), .ref 0]) rfl ?_
  refine hx_ok (a := 346) (b := 5) (as := [.ref 0, .int (xs (i + 1)), .int (xs (i + 2)), .int (xs (i + 3)), .ref 363]) (S' := []) rfl rfl (fun _ _ => rfl) (by decide) rfl rfl hh ?_
  refine hx_go 6 (pc' := 748) (L' := [.ref 1000000, .ref 0, .ref 353, .ref 363, .int (jI (i : Int)), .int (jI (J2 353 0)), X6]) (S' := [.int (jI (i : Int) + Int32.ofInt 1), .ref 1000000, .ref 353]) rfl ?_
  refine hx_scj 1 rfl rfl (by omega) hN ?_
  refine hx_go 4 (pc' := 754) (L' := [.ref 1000000, .ref 0, .ref 353, .ref 363, .int (jI (i : Int)), .int (jI (J2 353 0)), X6]) (S' := [.int (jI (i : Int) + Int32.ofInt 2), .ref 1000000, .int (xs (i + 1)), .ref 353]) rfl ?_
  refine hx_scj 2 rfl rfl (by omega) hN ?_
  refine hx_go 4 (pc' := 760) (L' := [.ref 1000000, .ref 0, .ref 353, .ref 363, .int (jI (i : Int)), .int (jI (J2 353 0)), X6]) (S' := [.int (jI (i : Int) + Int32.ofInt 3), .ref 1000000, .int (xs (i + 2)), .int (xs (i + 1)), .ref 353]) rfl ?_
  refine hx_scj 3 rfl rfl (by omega) hN ?_
  refine hx_ok (a := 249) (b := 3) (as := [.ref 353, .int (xs (i + 1)), .int (xs (i + 2)), .int (xs (i + 3))]) (S' := []) rfl rfl (fun _ _ => rfl) (by decide) (zargI_ok rfl (zrecv_of (ci := 10) (by decide) h_353)) rfl (run_W (by decide) (by repeat' first | exact cln_n | apply cln_i | exact cln_c r353_ok cln_n | apply cln_c r353_ok | apply cln_c fl_ok) h2) ?_
  refine hx_go 2 (pc' := 767) (L' := [.ref 1000000, .ref 0, .ref 353, .ref 363, .int (jI (i : Int)), .int (jI (J2 353 0)), .int (jI v)]) (S' := [.ref 353]) rfl ?_
  refine hx_ok (a := 175) (b := 0) (as := [.ref 353]) (S' := []) rfl rfl (fun _ _ => rfl) (by decide) (zargI_ok rfl (zrecv_of (ci := 10) (by decide) h_353)) rfl (run_of thr_run) ?_
  refine hx_go 1 (pc' := 772) (L' := [.ref 1000000, .ref 0, .ref 353, .ref 363, .int (jI (i : Int)), .int (jI (J2 353 0)), .int (jI v)]) (S' := [.int (jI (J2 353 0)), .int (jI (J2 353 0))]) rfl ?_
  refine hx_ic rfl ?_
  refine hx_go 1 (pc' := 779) (L' := [.ref 1000000, .ref 0, .ref 353, .ref 363, .int (jI (i : Int)), .int (jI (J2 353 0)), .int (jI v)]) (S' := [.int (jI (J2 353 0))]) rfl ?_
  by_cases h0 : J2 353 0 = 0
  · refine hx_n1' rfl (by rw [h0]; rfl) ?_
    refine hx_go 2 (pc' := 784) (L' := [.ref 1000000, .ref 0, .ref 353, .ref 363, .int (jI (i : Int)), .int (jI (J2 353 0)), .int (jI v)]) (S' := [.int (Int32.ofInt 0), .ref 363]) rfl ?_
    refine hx_ll rfl ?_
    rw [hv h0]
    refine hx_go 2 (pc' := 788) (L' := [.ref 1000000, .ref 0, .ref 353, .ref 363, .int (jI (i : Int)), .int (jI (J2 353 0)), .int (jI v)]) (S' := [.long (jI v).toInt64, .long (jI v).toInt64]) rfl ?_
    refine hx_lc rfl rfl ?_
    refine hx_go 1 (pc' := 3265) (L' := [.ref 1000000, .ref 0, .ref 353, .ref 363, .int (jI (i : Int)), .int (jI (J2 353 0)), .int (jI v)]) (S' := []) rfl ?_
    exact h9
  · refine hx_n0 rfl (by rw [ne_eq, jI_eq0 (by omega) (by omega)]; exact h0) ?_
    refine hx_go 1 (pc' := 3265) (L' := [.ref 1000000, .ref 0, .ref 353, .ref 363, .int (jI (i : Int)), .int (jI (J2 353 0)), .int (jI v)]) (S' := []) rfl ?_
    exact h9
/-- ship -/
theorem cs_8 (hi : i + 6 ≤ N) (hN : N ≤ 3072) (g : GC J J) (t : GT k J) (k0 : 0 ≤ k) (k1 : k ≤ 21500) (nx : ∀ J' lg' Y5 Y6, GC J' J' → GT (k + 42) J' → lw N xs 3265 [.ref 1000000, .ref 0, .ref 353, .ref 363, .int (jI (i : Int)), Y5, Y6] [] J' lg' B) : lw N xs 797 [.ref 1000000, .ref 0, .ref 353, .ref 363, .int (jI (i : Int)), X5, X6] [] J lg (B + 6) := by
  have hop : Op (lg, N, xs) k [0, 2] 107 251 [.ref 0, .int (jI (xs (i + 1)).toInt)] [.ref 353, .int (jI (xs (i + 1)).toInt)] := op_ship (by omega) (jI_lo _) (jI_hi _)
  obtain ⟨o, J1, v, J2, h1, h2, gc, gt, mt⟩ := hop J g t
  simp only [jI_of] at h1 h2
  obtain ⟨lg1, u1, hh, hu, hv⟩ := hp_347 (J1 := J1) (z0 := xs (i + 1)) h1 mt
  have tb := mtc_b mt (by decide)
  obtain ⟨J9, lg9, u9, h9, b9⟩ := nx J2 lg1 (.int (jI (J2 353 0))) (.int (jI v)) gc gt
  refine ⟨J9, lg9, u1 + (0 + (0 + u9)), ?_, by omega⟩
  refine hx_go 5 (pc' := 803) (L' := [.ref 1000000, .ref 0, .ref 353, .ref 363, .int (jI (i : Int)), X5, X6]) (S' := [.int (jI (i : Int) + Int32.ofInt 1), .ref 1000000, .ref 0]) rfl ?_
  refine hx_scj 1 rfl rfl (by omega) hN ?_
  refine hx_go 1 (pc' := 805) (L' := [.ref 1000000, .ref 0, .ref 353, .ref 363, .int (jI (i : Int)), X5, X6]) (S' := [.ref 363, .int (xs (i + 1)), .ref 0]) rfl ?_
  refine hx_ok (a := 347) (b := 3) (as := [.ref 0, .int (xs (i + 1)), .ref 363]) (S' := []) rfl rfl (fun _ _ => rfl) (by decide) rfl rfl hh ?_
  refine hx_go 6 (pc' := 816) (L' := [.ref 1000000, .ref 0, .ref 353, .ref 363, .int (jI (i : Int)), .int (jI (J2 353 0)), X6]) (S' := [.int (jI (i : Int) + Int32.ofInt 1), .ref 1000000, .ref 353]) rfl ?_
  refine hx_scj 1 rfl rfl (by omega) hN ?_
  refine hx_ok (a := 251) (b := 1) (as := [.ref 353, .int (xs (i + 1))]) (S' := []) rfl rfl (fun _ _ => rfl) (by decide) (zargI_ok rfl (zrecv_of (ci := 10) (by decide) h_353)) rfl (run_W (by decide) (by repeat' first | exact cln_n | apply cln_i | exact cln_c r353_ok cln_n | apply cln_c r353_ok | apply cln_c fl_ok) h2) ?_
  refine hx_go 2 (pc' := 823) (L' := [.ref 1000000, .ref 0, .ref 353, .ref 363, .int (jI (i : Int)), .int (jI (J2 353 0)), .int (jI v)]) (S' := [.ref 353]) rfl ?_
  refine hx_ok (a := 175) (b := 0) (as := [.ref 353]) (S' := []) rfl rfl (fun _ _ => rfl) (by decide) (zargI_ok rfl (zrecv_of (ci := 10) (by decide) h_353)) rfl (run_of thr_run) ?_
  refine hx_go 1 (pc' := 828) (L' := [.ref 1000000, .ref 0, .ref 353, .ref 363, .int (jI (i : Int)), .int (jI (J2 353 0)), .int (jI v)]) (S' := [.int (jI (J2 353 0)), .int (jI (J2 353 0))]) rfl ?_
  refine hx_ic rfl ?_
  refine hx_go 1 (pc' := 835) (L' := [.ref 1000000, .ref 0, .ref 353, .ref 363, .int (jI (i : Int)), .int (jI (J2 353 0)), .int (jI v)]) (S' := [.int (jI (J2 353 0))]) rfl ?_
  by_cases h0 : J2 353 0 = 0
  · refine hx_n1' rfl (by rw [h0]; rfl) ?_
    refine hx_go 2 (pc' := 840) (L' := [.ref 1000000, .ref 0, .ref 353, .ref 363, .int (jI (i : Int)), .int (jI (J2 353 0)), .int (jI v)]) (S' := [.int (Int32.ofInt 0), .ref 363]) rfl ?_
    refine hx_ll rfl ?_
    rw [hv h0]
    refine hx_go 2 (pc' := 844) (L' := [.ref 1000000, .ref 0, .ref 353, .ref 363, .int (jI (i : Int)), .int (jI (J2 353 0)), .int (jI v)]) (S' := [.long (jI v).toInt64, .long (jI v).toInt64]) rfl ?_
    refine hx_lc rfl rfl ?_
    refine hx_go 1 (pc' := 3265) (L' := [.ref 1000000, .ref 0, .ref 353, .ref 363, .int (jI (i : Int)), .int (jI (J2 353 0)), .int (jI v)]) (S' := []) rfl ?_
    exact h9
  · refine hx_n0 rfl (by rw [ne_eq, jI_eq0 (by omega) (by omega)]; exact h0) ?_
    refine hx_go 1 (pc' := 3265) (L' := [.ref 1000000, .ref 0, .ref 353, .ref 363, .int (jI (i : Int)), .int (jI (J2 353 0)), .int (jI v)]) (S' := []) rfl ?_
    exact h9
/-- discard -/
theorem cs_9 (hi : i + 6 ≤ N) (hN : N ≤ 3072) (g : GC J J) (t : GT k J) (k0 : 0 ≤ k) (k1 : k ≤ 21500) (nx : ∀ J' lg' Y5 Y6, GC J' J' → GT (k + 42) J' → lw N xs 3265 [.ref 1000000, .ref 0, .ref 353, .ref 363, .int (jI (i : Int)), Y5, Y6] [] J' lg' B) : lw N xs 853 [.ref 1000000, .ref 0, .ref 353, .ref 363, .int (jI (i : Int)), X5, X6] [] J lg (B + 6) := by
  have hop : Op (lg, N, xs) k [0, 2] 108 252 [.ref 0, .int (jI (xs (i + 1)).toInt)] [.ref 353, .int (jI (xs (i + 1)).toInt)] := op_discard (by omega) (jI_lo _) (jI_hi _)
  obtain ⟨o, J1, v, J2, h1, h2, gc, gt, mt⟩ := hop J g t
  simp only [jI_of] at h1 h2
  obtain ⟨lg1, u1, hh, hu, hv⟩ := hp_348 (J1 := J1) (z0 := xs (i + 1)) h1 mt
  have tb := mtc_b mt (by decide)
  obtain ⟨J9, lg9, u9, h9, b9⟩ := nx J2 lg1 (.int (jI (J2 353 0))) (.int (jI v)) gc gt
  refine ⟨J9, lg9, u1 + (0 + (0 + u9)), ?_, by omega⟩
  refine hx_go 5 (pc' := 859) (L' := [.ref 1000000, .ref 0, .ref 353, .ref 363, .int (jI (i : Int)), X5, X6]) (S' := [.int (jI (i : Int) + Int32.ofInt 1), .ref 1000000, .ref 0]) rfl ?_
  refine hx_scj 1 rfl rfl (by omega) hN ?_
  refine hx_go 1 (pc' := 861) (L' := [.ref 1000000, .ref 0, .ref 353, .ref 363, .int (jI (i : Int)), X5, X6]) (S' := [.ref 363, .int (xs (i + 1)), .ref 0]) rfl ?_
  refine hx_ok (a := 348) (b := 3) (as := [.ref 0, .int (xs (i + 1)), .ref 363]) (S' := []) rfl rfl (fun _ _ => rfl) (by decide) rfl rfl hh ?_
  refine hx_go 6 (pc' := 872) (L' := [.ref 1000000, .ref 0, .ref 353, .ref 363, .int (jI (i : Int)), .int (jI (J2 353 0)), X6]) (S' := [.int (jI (i : Int) + Int32.ofInt 1), .ref 1000000, .ref 353]) rfl ?_
  refine hx_scj 1 rfl rfl (by omega) hN ?_
  refine hx_ok (a := 252) (b := 1) (as := [.ref 353, .int (xs (i + 1))]) (S' := []) rfl rfl (fun _ _ => rfl) (by decide) (zargI_ok rfl (zrecv_of (ci := 10) (by decide) h_353)) rfl (run_W (by decide) (by repeat' first | exact cln_n | apply cln_i | exact cln_c r353_ok cln_n | apply cln_c r353_ok | apply cln_c fl_ok) h2) ?_
  refine hx_go 2 (pc' := 879) (L' := [.ref 1000000, .ref 0, .ref 353, .ref 363, .int (jI (i : Int)), .int (jI (J2 353 0)), .int (jI v)]) (S' := [.ref 353]) rfl ?_
  refine hx_ok (a := 175) (b := 0) (as := [.ref 353]) (S' := []) rfl rfl (fun _ _ => rfl) (by decide) (zargI_ok rfl (zrecv_of (ci := 10) (by decide) h_353)) rfl (run_of thr_run) ?_
  refine hx_go 1 (pc' := 884) (L' := [.ref 1000000, .ref 0, .ref 353, .ref 363, .int (jI (i : Int)), .int (jI (J2 353 0)), .int (jI v)]) (S' := [.int (jI (J2 353 0)), .int (jI (J2 353 0))]) rfl ?_
  refine hx_ic rfl ?_
  refine hx_go 1 (pc' := 891) (L' := [.ref 1000000, .ref 0, .ref 353, .ref 363, .int (jI (i : Int)), .int (jI (J2 353 0)), .int (jI v)]) (S' := [.int (jI (J2 353 0))]) rfl ?_
  by_cases h0 : J2 353 0 = 0
  · refine hx_n1' rfl (by rw [h0]; rfl) ?_
    refine hx_go 2 (pc' := 896) (L' := [.ref 1000000, .ref 0, .ref 353, .ref 363, .int (jI (i : Int)), .int (jI (J2 353 0)), .int (jI v)]) (S' := [.int (Int32.ofInt 0), .ref 363]) rfl ?_
    refine hx_ll rfl ?_
    rw [hv h0]
    refine hx_go 2 (pc' := 900) (L' := [.ref 1000000, .ref 0, .ref 353, .ref 363, .int (jI (i : Int)), .int (jI (J2 353 0)), .int (jI v)]) (S' := [.long (jI v).toInt64, .long (jI v).toInt64]) rfl ?_
    refine hx_lc rfl rfl ?_
    refine hx_go 1 (pc' := 3265) (L' := [.ref 1000000, .ref 0, .ref 353, .ref 363, .int (jI (i : Int)), .int (jI (J2 353 0)), .int (jI v)]) (S' := []) rfl ?_
    exact h9
  · refine hx_n0 rfl (by rw [ne_eq, jI_eq0 (by omega) (by omega)]; exact h0) ?_
    refine hx_go 1 (pc' := 3265) (L' := [.ref 1000000, .ref 0, .ref 353, .ref 363, .int (jI (i : Int)), .int (jI (J2 353 0)), .int (jI v)]) (S' := []) rfl ?_
    exact h9
/-- autoStore -/
theorem cs_10 (hi : i + 6 ≤ N) (hN : N ≤ 3072) (g : GC J J) (t : GT k J) (k0 : 0 ≤ k) (k1 : k ≤ 21500) (nx : ∀ J' lg' Y5 Y6, GC J' J' → GT (k + 42) J' → lw N xs 3265 [.ref 1000000, .ref 0, .ref 353, .ref 363, .int (jI (i : Int)), Y5, Y6] [] J' lg' B) : lw N xs 909 [.ref 1000000, .ref 0, .ref 353, .ref 363, .int (jI (i : Int)), X5, X6] [] J lg (B + 6) := by
  have hop : Op (lg, N, xs) k [] 109 255 [.ref 0, .float 0, .float 0] [.ref 353, .float 0, .float 0, .float 0, .float 0] := op_autoStore (by omega)
  obtain ⟨o, J1, v, J2, h1, h2, gc, gt, mt⟩ := hop J g t
  have ho := mtc_0 mt
  subst ho
  obtain ⟨J9, lg9, u9, h9, b9⟩ := nx J2 lg X5 X6 gc gt
  refine ⟨J9, lg9, 0 + (0 + u9), ?_, by omega⟩
  refine hx_go 1 (pc' := 910) (L' := [.ref 1000000, .ref 0, .ref 353, .ref 363, .int (jI (i : Int)), X5, X6]) (S' := [.ref 0]) rfl ?_
  refine hx_ok (a := 109) (b := 0) (as := [.ref 0]) (S' := []) rfl rfl (fun _ _ => rfl) (by decide) (zargI_ok rfl (zrecv_of (ci := 9) (by decide) h_0)) rfl (run_of h1) ?_
  refine hx_go 1 (pc' := 914) (L' := [.ref 1000000, .ref 0, .ref 353, .ref 363, .int (jI (i : Int)), X5, X6]) (S' := [.ref 353, .int (jI v)]) rfl ?_
  refine hx_ok (a := 255) (b := 0) (as := [.ref 353]) (S' := [.int (jI v)]) rfl rfl (fun _ _ => rfl) (by decide) (zargI_ok rfl (zrecv_of (ci := 10) (by decide) h_353)) rfl (run_of h2) ?_
  refine hx_ic rfl ?_
  exact h9
/-- serve -/
theorem cs_11 (hi : i + 6 ≤ N) (hN : N ≤ 3072) (g : GC J J) (t : GT k J) (k0 : 0 ≤ k) (k1 : k ≤ 21500) (nx : ∀ J' lg' Y5 Y6, GC J' J' → GT (k + 42) J' → lw N xs 3265 [.ref 1000000, .ref 0, .ref 353, .ref 363, .int (jI (i : Int)), Y5, Y6] [] J' lg' B) : lw N xs 922 [.ref 1000000, .ref 0, .ref 353, .ref 363, .int (jI (i : Int)), X5, X6] [] J lg (B + 6) := by
  have hop : Op (lg, N, xs) k [0, 2] 110 258 [.ref 0, .int (jI (xs (i + 1)).toInt), .float 0, .float 0] [.ref 353, .int (jI (xs (i + 1)).toInt), .float 0] := op_serve (by omega) (jI_lo _) (jI_hi _)
  obtain ⟨o, J1, v, J2, h1, h2, gc, gt, mt⟩ := hop J g t
  simp only [jI_of] at h1 h2
  obtain ⟨lg1, u1, hh, hu, hv⟩ := hp_349 (J1 := J1) (z0 := xs (i + 1)) h1 mt
  have tb := mtc_b mt (by decide)
  obtain ⟨J9, lg9, u9, h9, b9⟩ := nx J2 lg1 (.int (jI (J2 353 0))) (.int (jI v)) gc gt
  refine ⟨J9, lg9, u1 + (0 + (0 + u9)), ?_, by omega⟩
  refine hx_go 5 (pc' := 928) (L' := [.ref 1000000, .ref 0, .ref 353, .ref 363, .int (jI (i : Int)), X5, X6]) (S' := [.int (jI (i : Int) + Int32.ofInt 1), .ref 1000000, .ref 0]) rfl ?_
  refine hx_scj 1 rfl rfl (by omega) hN ?_
  refine hx_go 1 (pc' := 930) (L' := [.ref 1000000, .ref 0, .ref 353, .ref 363, .int (jI (i : Int)), X5, X6]) (S' := [.ref 363, .int (xs (i + 1)), .ref 0]) rfl ?_
  refine hx_ok (a := 349) (b := 3) (as := [.ref 0, .int (xs (i + 1)), .ref 363]) (S' := []) rfl rfl (fun _ _ => rfl) (by decide) rfl rfl hh ?_
  refine hx_go 6 (pc' := 941) (L' := [.ref 1000000, .ref 0, .ref 353, .ref 363, .int (jI (i : Int)), .int (jI (J2 353 0)), X6]) (S' := [.int (jI (i : Int) + Int32.ofInt 1), .ref 1000000, .ref 353]) rfl ?_
  refine hx_scj 1 rfl rfl (by omega) hN ?_
  refine hx_ok (a := 258) (b := 1) (as := [.ref 353, .int (xs (i + 1))]) (S' := []) rfl rfl (fun _ _ => rfl) (by decide) (zargI_ok rfl (zrecv_of (ci := 10) (by decide) h_353)) rfl (run_W (by decide) (by repeat' first | exact cln_n | apply cln_i | exact cln_c r353_ok cln_n | apply cln_c r353_ok | apply cln_c fl_ok) h2) ?_
  refine hx_go 2 (pc' := 948) (L' := [.ref 1000000, .ref 0, .ref 353, .ref 363, .int (jI (i : Int)), .int (jI (J2 353 0)), .int (jI v)]) (S' := [.ref 353]) rfl ?_
  refine hx_ok (a := 175) (b := 0) (as := [.ref 353]) (S' := []) rfl rfl (fun _ _ => rfl) (by decide) (zargI_ok rfl (zrecv_of (ci := 10) (by decide) h_353)) rfl (run_of thr_run) ?_
  refine hx_go 1 (pc' := 953) (L' := [.ref 1000000, .ref 0, .ref 353, .ref 363, .int (jI (i : Int)), .int (jI (J2 353 0)), .int (jI v)]) (S' := [.int (jI (J2 353 0)), .int (jI (J2 353 0))]) rfl ?_
  refine hx_ic rfl ?_
  refine hx_go 1 (pc' := 960) (L' := [.ref 1000000, .ref 0, .ref 353, .ref 363, .int (jI (i : Int)), .int (jI (J2 353 0)), .int (jI v)]) (S' := [.int (jI (J2 353 0))]) rfl ?_
  by_cases h0 : J2 353 0 = 0
  · refine hx_n1' rfl (by rw [h0]; rfl) ?_
    refine hx_go 2 (pc' := 965) (L' := [.ref 1000000, .ref 0, .ref 353, .ref 363, .int (jI (i : Int)), .int (jI (J2 353 0)), .int (jI v)]) (S' := [.int (Int32.ofInt 0), .ref 363]) rfl ?_
    refine hx_ll rfl ?_
    rw [hv h0]
    refine hx_go 2 (pc' := 969) (L' := [.ref 1000000, .ref 0, .ref 353, .ref 363, .int (jI (i : Int)), .int (jI (J2 353 0)), .int (jI v)]) (S' := [.long (jI v).toInt64, .long (jI v).toInt64]) rfl ?_
    refine hx_lc rfl rfl ?_
    refine hx_go 1 (pc' := 3265) (L' := [.ref 1000000, .ref 0, .ref 353, .ref 363, .int (jI (i : Int)), .int (jI (J2 353 0)), .int (jI v)]) (S' := []) rfl ?_
    exact h9
  · refine hx_n0 rfl (by rw [ne_eq, jI_eq0 (by omega) (by omega)]; exact h0) ?_
    refine hx_go 1 (pc' := 3265) (L' := [.ref 1000000, .ref 0, .ref 353, .ref 363, .int (jI (i : Int)), .int (jI (J2 353 0)), .int (jI v)]) (S' := []) rfl ?_
    exact h9
/-- setSetpoint -/
theorem cs_12 (hi : i + 6 ≤ N) (hN : N ≤ 3072) (g : GC J J) (t : GT k J) (k0 : 0 ≤ k) (k1 : k ≤ 21500) (nx : ∀ J' lg' Y5 Y6, GC J' J' → GT (k + 42) J' → lw N xs 3265 [.ref 1000000, .ref 0, .ref 353, .ref 363, .int (jI (i : Int)), Y5, Y6] [] J' lg' B) : lw N xs 978 [.ref 1000000, .ref 0, .ref 353, .ref 363, .int (jI (i : Int)), X5, X6] [] J lg (B + 6) := by
  have hop : Op (lg, N, xs) k [0, 1] 111 260 [.ref 0, .int (jI (xs (i + 1)).toInt), .int (jI (xs (i + 2)).toInt), .float 0] [.ref 353, .int (jI (xs (i + 1)).toInt), .int (jI (xs (i + 2)).toInt), .float 0] := op_setSetpoint (by omega) (jI_lo _) (jI_hi _) (jI_lo _) (jI_hi _)
  obtain ⟨o, J1, v, J2, h1, h2, gc, gt, mt⟩ := hop J g t
  simp only [jI_of] at h1 h2
  obtain ⟨lg1, u1, hh, hu, hv⟩ := hp_350 (J1 := J1) (z0 := xs (i + 1)) (z1 := xs (i + 2)) h1 mt
  have tb := mtc_b mt (by decide)
  obtain ⟨J9, lg9, u9, h9, b9⟩ := nx J2 lg1 (.int (jI (J2 353 0))) (.int (jI v)) gc gt
  refine ⟨J9, lg9, u1 + (0 + (0 + u9)), ?_, by omega⟩
  refine hx_go 5 (pc' := 984) (L' := [.ref 1000000, .ref 0, .ref 353, .ref 363, .int (jI (i : Int)), X5, X6]) (S' := [.int (jI (i : Int) + Int32.ofInt 1), .ref 1000000, .ref 0]) rfl ?_
  refine hx_scj 1 rfl rfl (by omega) hN ?_
  refine hx_go 4 (pc' := 990) (L' := [.ref 1000000, .ref 0, .ref 353, .ref 363, .int (jI (i : Int)), X5, X6]) (S' := [.int (jI (i : Int) + Int32.ofInt 2), .ref 1000000, .int (xs (i + 1)), .ref 0]) rfl ?_
  refine hx_scj 2 rfl rfl (by omega) hN ?_
  refine hx_go 1 (pc' := 992) (L' := [.ref 1000000, .ref 0, .ref 353, .ref 363, .int (jI (i : Int)), X5, X6]) (S' := [.ref 363, .int (xs (i + 2)), .int (xs (i + 1)), .ref 0]) rfl ?_
  refine hx_ok (a := 350) (b := 4) (as := [.ref 0, .int (xs (i + 1)), .int (xs (i + 2)), .ref 363]) (S' := []) rfl rfl (fun _ _ => rfl) (by decide) rfl rfl hh ?_
  refine hx_go 6 (pc' := 1003) (L' := [.ref 1000000, .ref 0, .ref 353, .ref 363, .int (jI (i : Int)), .int (jI (J2 353 0)), X6]) (S' := [.int (jI (i : Int) + Int32.ofInt 1), .ref 1000000, .ref 353]) rfl ?_
  refine hx_scj 1 rfl rfl (by omega) hN ?_
  refine hx_go 4 (pc' := 1009) (L' := [.ref 1000000, .ref 0, .ref 353, .ref 363, .int (jI (i : Int)), .int (jI (J2 353 0)), X6]) (S' := [.int (jI (i : Int) + Int32.ofInt 2), .ref 1000000, .int (xs (i + 1)), .ref 353]) rfl ?_
  refine hx_scj 2 rfl rfl (by omega) hN ?_
  refine hx_ok (a := 260) (b := 2) (as := [.ref 353, .int (xs (i + 1)), .int (xs (i + 2))]) (S' := []) rfl rfl (fun _ _ => rfl) (by decide) (zargI_ok rfl (zrecv_of (ci := 10) (by decide) h_353)) rfl (run_W (by decide) (by repeat' first | exact cln_n | apply cln_i | exact cln_c r353_ok cln_n | apply cln_c r353_ok | apply cln_c fl_ok) h2) ?_
  refine hx_go 2 (pc' := 1016) (L' := [.ref 1000000, .ref 0, .ref 353, .ref 363, .int (jI (i : Int)), .int (jI (J2 353 0)), .int (jI v)]) (S' := [.ref 353]) rfl ?_
  refine hx_ok (a := 175) (b := 0) (as := [.ref 353]) (S' := []) rfl rfl (fun _ _ => rfl) (by decide) (zargI_ok rfl (zrecv_of (ci := 10) (by decide) h_353)) rfl (run_of thr_run) ?_
  refine hx_go 1 (pc' := 1021) (L' := [.ref 1000000, .ref 0, .ref 353, .ref 363, .int (jI (i : Int)), .int (jI (J2 353 0)), .int (jI v)]) (S' := [.int (jI (J2 353 0)), .int (jI (J2 353 0))]) rfl ?_
  refine hx_ic rfl ?_
  refine hx_go 1 (pc' := 1028) (L' := [.ref 1000000, .ref 0, .ref 353, .ref 363, .int (jI (i : Int)), .int (jI (J2 353 0)), .int (jI v)]) (S' := [.int (jI (J2 353 0))]) rfl ?_
  by_cases h0 : J2 353 0 = 0
  · refine hx_n1' rfl (by rw [h0]; rfl) ?_
    refine hx_go 2 (pc' := 1033) (L' := [.ref 1000000, .ref 0, .ref 353, .ref 363, .int (jI (i : Int)), .int (jI (J2 353 0)), .int (jI v)]) (S' := [.int (Int32.ofInt 0), .ref 363]) rfl ?_
    refine hx_ll rfl ?_
    rw [hv h0]
    refine hx_go 2 (pc' := 1037) (L' := [.ref 1000000, .ref 0, .ref 353, .ref 363, .int (jI (i : Int)), .int (jI (J2 353 0)), .int (jI v)]) (S' := [.long (jI v).toInt64, .long (jI v).toInt64]) rfl ?_
    refine hx_lc rfl rfl ?_
    refine hx_go 1 (pc' := 3265) (L' := [.ref 1000000, .ref 0, .ref 353, .ref 363, .int (jI (i : Int)), .int (jI (J2 353 0)), .int (jI v)]) (S' := []) rfl ?_
    exact h9
  · refine hx_n0 rfl (by rw [ne_eq, jI_eq0 (by omega) (by omega)]; exact h0) ?_
    refine hx_go 1 (pc' := 3265) (L' := [.ref 1000000, .ref 0, .ref 353, .ref 363, .int (jI (i : Int)), .int (jI (J2 353 0)), .int (jI v)]) (S' := []) rfl ?_
    exact h9
/-- advance -/
theorem cs_13 (hi : i + 6 ≤ N) (hN : N ≤ 3072) (g : GC J J) (t : GT k J) (k0 : 0 ≤ k) (k1 : k ≤ 21500) (nx : ∀ J' lg' Y5 Y6, GC J' J' → GT (k + 42) J' → lw N xs 3265 [.ref 1000000, .ref 0, .ref 353, .ref 363, .int (jI (i : Int)), Y5, Y6] [] J' lg' B) : lw N xs 1046 [.ref 1000000, .ref 0, .ref 353, .ref 363, .int (jI (i : Int)), X5, X6] [] J lg (B + 6) := by
  have hop : Op (lg, N, xs) k [1] 112 266 [.ref 0, .int (jI (xs (i + 1)).toInt), .float 0] [.ref 353, .int (jI (xs (i + 1)).toInt), .float 0] := op_advance (by omega) (by omega) (jI_lo _) (jI_hi _)
  obtain ⟨o, J1, v, J2, h1, h2, gc, gt, mt⟩ := hop J g t
  simp only [jI_of] at h1 h2
  obtain ⟨lg1, u1, hh, hu, hv⟩ := hp_351 (J1 := J1) (z0 := xs (i + 1)) h1 mt
  have tb := mtc_b mt (by decide)
  obtain ⟨J9, lg9, u9, h9, b9⟩ := nx J2 lg1 (.int (jI (J2 353 0))) (.int (jI v)) gc gt
  refine ⟨J9, lg9, u1 + (0 + (0 + u9)), ?_, by omega⟩
  refine hx_go 5 (pc' := 1052) (L' := [.ref 1000000, .ref 0, .ref 353, .ref 363, .int (jI (i : Int)), X5, X6]) (S' := [.int (jI (i : Int) + Int32.ofInt 1), .ref 1000000, .ref 0]) rfl ?_
  refine hx_scj 1 rfl rfl (by omega) hN ?_
  refine hx_go 1 (pc' := 1054) (L' := [.ref 1000000, .ref 0, .ref 353, .ref 363, .int (jI (i : Int)), X5, X6]) (S' := [.ref 363, .int (xs (i + 1)), .ref 0]) rfl ?_
  refine hx_ok (a := 351) (b := 3) (as := [.ref 0, .int (xs (i + 1)), .ref 363]) (S' := []) rfl rfl (fun _ _ => rfl) (by decide) rfl rfl hh ?_
  refine hx_go 6 (pc' := 1065) (L' := [.ref 1000000, .ref 0, .ref 353, .ref 363, .int (jI (i : Int)), .int (jI (J2 353 0)), X6]) (S' := [.int (jI (i : Int) + Int32.ofInt 1), .ref 1000000, .ref 353]) rfl ?_
  refine hx_scj 1 rfl rfl (by omega) hN ?_
  refine hx_ok (a := 266) (b := 1) (as := [.ref 353, .int (xs (i + 1))]) (S' := []) rfl rfl (fun _ _ => rfl) (by decide) (zargI_ok rfl (zrecv_of (ci := 10) (by decide) h_353)) rfl (run_W (by decide) (by repeat' first | exact cln_n | apply cln_i | exact cln_c r353_ok cln_n | apply cln_c r353_ok | apply cln_c fl_ok) h2) ?_
  refine hx_go 2 (pc' := 1072) (L' := [.ref 1000000, .ref 0, .ref 353, .ref 363, .int (jI (i : Int)), .int (jI (J2 353 0)), .int (jI v)]) (S' := [.ref 353]) rfl ?_
  refine hx_ok (a := 175) (b := 0) (as := [.ref 353]) (S' := []) rfl rfl (fun _ _ => rfl) (by decide) (zargI_ok rfl (zrecv_of (ci := 10) (by decide) h_353)) rfl (run_of thr_run) ?_
  refine hx_go 1 (pc' := 1077) (L' := [.ref 1000000, .ref 0, .ref 353, .ref 363, .int (jI (i : Int)), .int (jI (J2 353 0)), .int (jI v)]) (S' := [.int (jI (J2 353 0)), .int (jI (J2 353 0))]) rfl ?_
  refine hx_ic rfl ?_
  refine hx_go 1 (pc' := 1084) (L' := [.ref 1000000, .ref 0, .ref 353, .ref 363, .int (jI (i : Int)), .int (jI (J2 353 0)), .int (jI v)]) (S' := [.int (jI (J2 353 0))]) rfl ?_
  by_cases h0 : J2 353 0 = 0
  · refine hx_n1' rfl (by rw [h0]; rfl) ?_
    refine hx_go 2 (pc' := 1089) (L' := [.ref 1000000, .ref 0, .ref 353, .ref 363, .int (jI (i : Int)), .int (jI (J2 353 0)), .int (jI v)]) (S' := [.int (Int32.ofInt 0), .ref 363]) rfl ?_
    refine hx_ll rfl ?_
    rw [hv h0]
    refine hx_go 2 (pc' := 1093) (L' := [.ref 1000000, .ref 0, .ref 353, .ref 363, .int (jI (i : Int)), .int (jI (J2 353 0)), .int (jI v)]) (S' := [.long (jI v).toInt64, .long (jI v).toInt64]) rfl ?_
    refine hx_lc rfl rfl ?_
    refine hx_go 1 (pc' := 3265) (L' := [.ref 1000000, .ref 0, .ref 353, .ref 363, .int (jI (i : Int)), .int (jI (J2 353 0)), .int (jI v)]) (S' := []) rfl ?_
    exact h9
  · refine hx_n0 rfl (by rw [ne_eq, jI_eq0 (by omega) (by omega)]; exact h0) ?_
    refine hx_go 1 (pc' := 3265) (L' := [.ref 1000000, .ref 0, .ref 353, .ref 363, .int (jI (i : Int)), .int (jI (J2 353 0)), .int (jI v)]) (S' := []) rfl ?_
    exact h9
/-- chamberCount -/
theorem cs_14 (hi : i + 6 ≤ N) (hN : N ≤ 3072) (g : GC J J) (t : GT k J) (k0 : 0 ≤ k) (k1 : k ≤ 21500) (nx : ∀ J' lg' Y5 Y6, GC J' J' → GT (k + 42) J' → lw N xs 3265 [.ref 1000000, .ref 0, .ref 353, .ref 363, .int (jI (i : Int)), Y5, Y6] [] J' lg' B) : lw N xs 1102 [.ref 1000000, .ref 0, .ref 353, .ref 363, .int (jI (i : Int)), X5, X6] [] J lg (B + 6) := by
  have hop : Op (lg, N, xs) k [] 113 270 [.ref 0] [.ref 353] := op_chamberCount (by omega)
  obtain ⟨o, J1, v, J2, h1, h2, gc, gt, mt⟩ := hop J g t
  have ho := mtc_0 mt
  subst ho
  obtain ⟨J9, lg9, u9, h9, b9⟩ := nx J2 lg X5 X6 gc gt
  refine ⟨J9, lg9, 0 + (0 + u9), ?_, by omega⟩
  refine hx_go 1 (pc' := 1103) (L' := [.ref 1000000, .ref 0, .ref 353, .ref 363, .int (jI (i : Int)), X5, X6]) (S' := [.ref 0]) rfl ?_
  refine hx_ok (a := 113) (b := 0) (as := [.ref 0]) (S' := []) rfl rfl (fun _ _ => rfl) (by decide) (zargI_ok rfl (zrecv_of (ci := 9) (by decide) h_0)) rfl (run_of h1) ?_
  refine hx_go 1 (pc' := 1107) (L' := [.ref 1000000, .ref 0, .ref 353, .ref 363, .int (jI (i : Int)), X5, X6]) (S' := [.ref 353, .int (jI v)]) rfl ?_
  refine hx_ok (a := 270) (b := 0) (as := [.ref 353]) (S' := [.int (jI v)]) rfl rfl (fun _ _ => rfl) (by decide) (zargI_ok rfl (zrecv_of (ci := 10) (by decide) h_353)) rfl (run_of h2) ?_
  refine hx_ic rfl ?_
  exact h9
/-- goodsCount -/
theorem cs_15 (hi : i + 6 ≤ N) (hN : N ≤ 3072) (g : GC J J) (t : GT k J) (k0 : 0 ≤ k) (k1 : k ≤ 21500) (nx : ∀ J' lg' Y5 Y6, GC J' J' → GT (k + 42) J' → lw N xs 3265 [.ref 1000000, .ref 0, .ref 353, .ref 363, .int (jI (i : Int)), Y5, Y6] [] J' lg' B) : lw N xs 1115 [.ref 1000000, .ref 0, .ref 353, .ref 363, .int (jI (i : Int)), X5, X6] [] J lg (B + 6) := by
  have hop : Op (lg, N, xs) k [] 114 271 [.ref 0] [.ref 353] := op_goodsCount (by omega)
  obtain ⟨o, J1, v, J2, h1, h2, gc, gt, mt⟩ := hop J g t
  have ho := mtc_0 mt
  subst ho
  obtain ⟨J9, lg9, u9, h9, b9⟩ := nx J2 lg X5 X6 gc gt
  refine ⟨J9, lg9, 0 + (0 + u9), ?_, by omega⟩
  refine hx_go 1 (pc' := 1116) (L' := [.ref 1000000, .ref 0, .ref 353, .ref 363, .int (jI (i : Int)), X5, X6]) (S' := [.ref 0]) rfl ?_
  refine hx_ok (a := 114) (b := 0) (as := [.ref 0]) (S' := []) rfl rfl (fun _ _ => rfl) (by decide) (zargI_ok rfl (zrecv_of (ci := 9) (by decide) h_0)) rfl (run_of h1) ?_
  refine hx_go 1 (pc' := 1120) (L' := [.ref 1000000, .ref 0, .ref 353, .ref 363, .int (jI (i : Int)), X5, X6]) (S' := [.ref 353, .int (jI v)]) rfl ?_
  refine hx_ok (a := 271) (b := 0) (as := [.ref 353]) (S' := [.int (jI v)]) rfl rfl (fun _ _ => rfl) (by decide) (zargI_ok rfl (zrecv_of (ci := 10) (by decide) h_353)) rfl (run_of h2) ?_
  refine hx_ic rfl ?_
  exact h9
/-- palletCount -/
theorem cs_16 (hi : i + 6 ≤ N) (hN : N ≤ 3072) (g : GC J J) (t : GT k J) (k0 : 0 ≤ k) (k1 : k ≤ 21500) (nx : ∀ J' lg' Y5 Y6, GC J' J' → GT (k + 42) J' → lw N xs 3265 [.ref 1000000, .ref 0, .ref 353, .ref 363, .int (jI (i : Int)), Y5, Y6] [] J' lg' B) : lw N xs 1128 [.ref 1000000, .ref 0, .ref 353, .ref 363, .int (jI (i : Int)), X5, X6] [] J lg (B + 6) := by
  have hop : Op (lg, N, xs) k [] 115 272 [.ref 0] [.ref 353] := op_palletCount (by omega)
  obtain ⟨o, J1, v, J2, h1, h2, gc, gt, mt⟩ := hop J g t
  have ho := mtc_0 mt
  subst ho
  obtain ⟨J9, lg9, u9, h9, b9⟩ := nx J2 lg X5 X6 gc gt
  refine ⟨J9, lg9, 0 + (0 + u9), ?_, by omega⟩
  refine hx_go 1 (pc' := 1129) (L' := [.ref 1000000, .ref 0, .ref 353, .ref 363, .int (jI (i : Int)), X5, X6]) (S' := [.ref 0]) rfl ?_
  refine hx_ok (a := 115) (b := 0) (as := [.ref 0]) (S' := []) rfl rfl (fun _ _ => rfl) (by decide) (zargI_ok rfl (zrecv_of (ci := 9) (by decide) h_0)) rfl (run_of h1) ?_
  refine hx_go 1 (pc' := 1133) (L' := [.ref 1000000, .ref 0, .ref 353, .ref 363, .int (jI (i : Int)), X5, X6]) (S' := [.ref 353, .int (jI v)]) rfl ?_
  refine hx_ok (a := 272) (b := 0) (as := [.ref 353]) (S' := [.int (jI v)]) rfl rfl (fun _ _ => rfl) (by decide) (zargI_ok rfl (zrecv_of (ci := 10) (by decide) h_353)) rfl (run_of h2) ?_
  refine hx_ic rfl ?_
  exact h9
/-- orderCount -/
theorem cs_17 (hi : i + 6 ≤ N) (hN : N ≤ 3072) (g : GC J J) (t : GT k J) (k0 : 0 ≤ k) (k1 : k ≤ 21500) (nx : ∀ J' lg' Y5 Y6, GC J' J' → GT (k + 42) J' → lw N xs 3265 [.ref 1000000, .ref 0, .ref 353, .ref 363, .int (jI (i : Int)), Y5, Y6] [] J' lg' B) : lw N xs 1141 [.ref 1000000, .ref 0, .ref 353, .ref 363, .int (jI (i : Int)), X5, X6] [] J lg (B + 6) := by
  have hop : Op (lg, N, xs) k [] 116 273 [.ref 0] [.ref 353] := op_orderCount (by omega)
  obtain ⟨o, J1, v, J2, h1, h2, gc, gt, mt⟩ := hop J g t
  have ho := mtc_0 mt
  subst ho
  obtain ⟨J9, lg9, u9, h9, b9⟩ := nx J2 lg X5 X6 gc gt
  refine ⟨J9, lg9, 0 + (0 + u9), ?_, by omega⟩
  refine hx_go 1 (pc' := 1142) (L' := [.ref 1000000, .ref 0, .ref 353, .ref 363, .int (jI (i : Int)), X5, X6]) (S' := [.ref 0]) rfl ?_
  refine hx_ok (a := 116) (b := 0) (as := [.ref 0]) (S' := []) rfl rfl (fun _ _ => rfl) (by decide) (zargI_ok rfl (zrecv_of (ci := 9) (by decide) h_0)) rfl (run_of h1) ?_
  refine hx_go 1 (pc' := 1146) (L' := [.ref 1000000, .ref 0, .ref 353, .ref 363, .int (jI (i : Int)), X5, X6]) (S' := [.ref 353, .int (jI v)]) rfl ?_
  refine hx_ok (a := 273) (b := 0) (as := [.ref 353]) (S' := [.int (jI v)]) rfl rfl (fun _ _ => rfl) (by decide) (zargI_ok rfl (zrecv_of (ci := 10) (by decide) h_353)) rfl (run_of h2) ?_
  refine hx_ic rfl ?_
  exact h9
/-- currentDay -/
theorem cs_18 (hi : i + 6 ≤ N) (hN : N ≤ 3072) (g : GC J J) (t : GT k J) (k0 : 0 ≤ k) (k1 : k ≤ 21500) (nx : ∀ J' lg' Y5 Y6, GC J' J' → GT (k + 42) J' → lw N xs 3265 [.ref 1000000, .ref 0, .ref 353, .ref 363, .int (jI (i : Int)), Y5, Y6] [] J' lg' B) : lw N xs 1154 [.ref 1000000, .ref 0, .ref 353, .ref 363, .int (jI (i : Int)), X5, X6] [] J lg (B + 6) := by
  have hop : Op (lg, N, xs) k [] 117 274 [.ref 0] [.ref 353] := op_currentDay (by omega)
  obtain ⟨o, J1, v, J2, h1, h2, gc, gt, mt⟩ := hop J g t
  have ho := mtc_0 mt
  subst ho
  obtain ⟨J9, lg9, u9, h9, b9⟩ := nx J2 lg X5 X6 gc gt
  refine ⟨J9, lg9, 0 + (0 + u9), ?_, by omega⟩
  refine hx_go 1 (pc' := 1155) (L' := [.ref 1000000, .ref 0, .ref 353, .ref 363, .int (jI (i : Int)), X5, X6]) (S' := [.ref 0]) rfl ?_
  refine hx_ok (a := 117) (b := 0) (as := [.ref 0]) (S' := []) rfl rfl (fun _ _ => rfl) (by decide) (zargI_ok rfl (zrecv_of (ci := 9) (by decide) h_0)) rfl (run_of h1) ?_
  refine hx_go 1 (pc' := 1159) (L' := [.ref 1000000, .ref 0, .ref 353, .ref 363, .int (jI (i : Int)), X5, X6]) (S' := [.ref 353, .int (jI v)]) rfl ?_
  refine hx_ok (a := 274) (b := 0) (as := [.ref 353]) (S' := [.int (jI v)]) rfl rfl (fun _ _ => rfl) (by decide) (zargI_ok rfl (zrecv_of (ci := 10) (by decide) h_353)) rfl (run_of h2) ?_
  refine hx_ic rfl ?_
  exact h9
/-- waitingCount -/
theorem cs_19 (hi : i + 6 ≤ N) (hN : N ≤ 3072) (g : GC J J) (t : GT k J) (k0 : 0 ≤ k) (k1 : k ≤ 21500) (nx : ∀ J' lg' Y5 Y6, GC J' J' → GT (k + 42) J' → lw N xs 3265 [.ref 1000000, .ref 0, .ref 353, .ref 363, .int (jI (i : Int)), Y5, Y6] [] J' lg' B) : lw N xs 1167 [.ref 1000000, .ref 0, .ref 353, .ref 363, .int (jI (i : Int)), X5, X6] [] J lg (B + 6) := by
  have hop : Op (lg, N, xs) k [] 118 275 [.ref 0] [.ref 353] := op_waitingCount (by omega)
  obtain ⟨o, J1, v, J2, h1, h2, gc, gt, mt⟩ := hop J g t
  have ho := mtc_0 mt
  subst ho
  obtain ⟨J9, lg9, u9, h9, b9⟩ := nx J2 lg X5 X6 gc gt
  refine ⟨J9, lg9, 0 + (0 + u9), ?_, by omega⟩
  refine hx_go 1 (pc' := 1168) (L' := [.ref 1000000, .ref 0, .ref 353, .ref 363, .int (jI (i : Int)), X5, X6]) (S' := [.ref 0]) rfl ?_
  refine hx_ok (a := 118) (b := 0) (as := [.ref 0]) (S' := []) rfl rfl (fun _ _ => rfl) (by decide) (zargI_ok rfl (zrecv_of (ci := 9) (by decide) h_0)) rfl (run_of h1) ?_
  refine hx_go 1 (pc' := 1172) (L' := [.ref 1000000, .ref 0, .ref 353, .ref 363, .int (jI (i : Int)), X5, X6]) (S' := [.ref 353, .int (jI v)]) rfl ?_
  refine hx_ok (a := 275) (b := 0) (as := [.ref 353]) (S' := [.int (jI v)]) rfl rfl (fun _ _ => rfl) (by decide) (zargI_ok rfl (zrecv_of (ci := 10) (by decide) h_353)) rfl (run_of h2) ?_
  refine hx_ic rfl ?_
  exact h9
/-- waitingPallet -/
theorem cs_20 (hi : i + 6 ≤ N) (hN : N ≤ 3072) (g : GC J J) (t : GT k J) (k0 : 0 ≤ k) (k1 : k ≤ 21500) (nx : ∀ J' lg' Y5 Y6, GC J' J' → GT (k + 42) J' → lw N xs 3265 [.ref 1000000, .ref 0, .ref 353, .ref 363, .int (jI (i : Int)), Y5, Y6] [] J' lg' B) : lw N xs 1180 [.ref 1000000, .ref 0, .ref 353, .ref 363, .int (jI (i : Int)), X5, X6] [] J lg (B + 6) := by
  have hop : Op (lg, N, xs) k [0] 119 276 [.ref 0, .int (jI (xs (i + 1)).toInt)] [.ref 353, .int (jI (xs (i + 1)).toInt)] := op_waitingPallet (by omega) (jI_lo _) (jI_hi _)
  obtain ⟨o, J1, v, J2, h1, h2, gc, gt, mt⟩ := hop J g t
  simp only [jI_of] at h1 h2
  obtain ⟨lg1, u1, hh, hu, hv⟩ := hp_352 (J1 := J1) (z0 := xs (i + 1)) h1 mt
  have tb := mtc_b mt (by decide)
  obtain ⟨J9, lg9, u9, h9, b9⟩ := nx J2 lg1 (.int (jI (J2 353 0))) (.int (jI v)) gc gt
  refine ⟨J9, lg9, u1 + (0 + (0 + u9)), ?_, by omega⟩
  refine hx_go 5 (pc' := 1186) (L' := [.ref 1000000, .ref 0, .ref 353, .ref 363, .int (jI (i : Int)), X5, X6]) (S' := [.int (jI (i : Int) + Int32.ofInt 1), .ref 1000000, .ref 0]) rfl ?_
  refine hx_scj 1 rfl rfl (by omega) hN ?_
  refine hx_go 1 (pc' := 1188) (L' := [.ref 1000000, .ref 0, .ref 353, .ref 363, .int (jI (i : Int)), X5, X6]) (S' := [.ref 363, .int (xs (i + 1)), .ref 0]) rfl ?_
  refine hx_ok (a := 352) (b := 3) (as := [.ref 0, .int (xs (i + 1)), .ref 363]) (S' := []) rfl rfl (fun _ _ => rfl) (by decide) rfl rfl hh ?_
  refine hx_go 6 (pc' := 1199) (L' := [.ref 1000000, .ref 0, .ref 353, .ref 363, .int (jI (i : Int)), .int (jI (J2 353 0)), X6]) (S' := [.int (jI (i : Int) + Int32.ofInt 1), .ref 1000000, .ref 353]) rfl ?_
  refine hx_scj 1 rfl rfl (by omega) hN ?_
  refine hx_ok (a := 276) (b := 1) (as := [.ref 353, .int (xs (i + 1))]) (S' := []) rfl rfl (fun _ _ => rfl) (by decide) (zargI_ok rfl (zrecv_of (ci := 10) (by decide) h_353)) rfl (run_W (by decide) (by repeat' first | exact cln_n | apply cln_i | exact cln_c r353_ok cln_n | apply cln_c r353_ok | apply cln_c fl_ok) h2) ?_
  refine hx_go 2 (pc' := 1206) (L' := [.ref 1000000, .ref 0, .ref 353, .ref 363, .int (jI (i : Int)), .int (jI (J2 353 0)), .int (jI v)]) (S' := [.ref 353]) rfl ?_
  refine hx_ok (a := 175) (b := 0) (as := [.ref 353]) (S' := []) rfl rfl (fun _ _ => rfl) (by decide) (zargI_ok rfl (zrecv_of (ci := 10) (by decide) h_353)) rfl (run_of thr_run) ?_
  refine hx_go 1 (pc' := 1211) (L' := [.ref 1000000, .ref 0, .ref 353, .ref 363, .int (jI (i : Int)), .int (jI (J2 353 0)), .int (jI v)]) (S' := [.int (jI (J2 353 0)), .int (jI (J2 353 0))]) rfl ?_
  refine hx_ic rfl ?_
  refine hx_go 1 (pc' := 1218) (L' := [.ref 1000000, .ref 0, .ref 353, .ref 363, .int (jI (i : Int)), .int (jI (J2 353 0)), .int (jI v)]) (S' := [.int (jI (J2 353 0))]) rfl ?_
  by_cases h0 : J2 353 0 = 0
  · refine hx_n1' rfl (by rw [h0]; rfl) ?_
    refine hx_go 2 (pc' := 1223) (L' := [.ref 1000000, .ref 0, .ref 353, .ref 363, .int (jI (i : Int)), .int (jI (J2 353 0)), .int (jI v)]) (S' := [.int (Int32.ofInt 0), .ref 363]) rfl ?_
    refine hx_ll rfl ?_
    rw [hv h0]
    refine hx_go 2 (pc' := 1227) (L' := [.ref 1000000, .ref 0, .ref 353, .ref 363, .int (jI (i : Int)), .int (jI (J2 353 0)), .int (jI v)]) (S' := [.long (jI v).toInt64, .long (jI v).toInt64]) rfl ?_
    refine hx_lc rfl rfl ?_
    refine hx_go 1 (pc' := 3265) (L' := [.ref 1000000, .ref 0, .ref 353, .ref 363, .int (jI (i : Int)), .int (jI (J2 353 0)), .int (jI v)]) (S' := []) rfl ?_
    exact h9
  · refine hx_n0 rfl (by rw [ne_eq, jI_eq0 (by omega) (by omega)]; exact h0) ?_
    refine hx_go 1 (pc' := 3265) (L' := [.ref 1000000, .ref 0, .ref 353, .ref 363, .int (jI (i : Int)), .int (jI (J2 353 0)), .int (jI v)]) (S' := []) rfl ?_
    exact h9
/-- order -/
theorem cs_21 (hi : i + 6 ≤ N) (hN : N ≤ 3072) (g : GC J J) (t : GT k J) (k0 : 0 ≤ k) (k1 : k ≤ 21500) (nx : ∀ J' lg' Y5 Y6, GC J' J' → GT (k + 42) J' → lw N xs 3265 [.ref 1000000, .ref 0, .ref 353, .ref 363, .int (jI (i : Int)), Y5, Y6] [] J' lg' B) : lw N xs 1236 [.ref 1000000, .ref 0, .ref 353, .ref 363, .int (jI (i : Int)), X5, X6] [] J lg (B + 6) := by
  have hop : Op (lg, N, xs) k [0, 1] 120 277 [.ref 0, .int (jI (xs (i + 1)).toInt), .int (jI (xs (i + 2)).toInt)] [.ref 353, .int (jI (xs (i + 1)).toInt), .int (jI (xs (i + 2)).toInt)] := op_order (by omega) (jI_lo _) (jI_hi _) (jI_lo _) (jI_hi _)
  obtain ⟨o, J1, v, J2, h1, h2, gc, gt, mt⟩ := hop J g t
  simp only [jI_of] at h1 h2
  obtain ⟨lg1, u1, hh, hu, hv⟩ := hp_353 (J1 := J1) (z0 := xs (i + 1)) (z1 := xs (i + 2)) h1 mt
  have tb := mtc_b mt (by decide)
  obtain ⟨J9, lg9, u9, h9, b9⟩ := nx J2 lg1 (.int (jI (J2 353 0))) (.int (jI v)) gc gt
  refine ⟨J9, lg9, u1 + (0 + (0 + u9)), ?_, by omega⟩
  refine hx_go 5 (pc' := 1242) (L' := [.ref 1000000, .ref 0, .ref 353, .ref 363, .int (jI (i : Int)), X5, X6]) (S' := [.int (jI (i : Int) + Int32.ofInt 1), .ref 1000000, .ref 0]) rfl ?_
  refine hx_scj 1 rfl rfl (by omega) hN ?_
  refine hx_go 4 (pc' := 1248) (L' := [.ref 1000000, .ref 0, .ref 353, .ref 363, .int (jI (i : Int)), X5, X6]) (S' := [.int (jI (i : Int) + Int32.ofInt 2), .ref 1000000, .int (xs (i + 1)), .ref 0]) rfl ?_
  refine hx_scj 2 rfl rfl (by omega) hN ?_
  refine hx_go 1 (pc' := 1250) (L' := [.ref 1000000, .ref 0, .ref 353, .ref 363, .int (jI (i : Int)), X5, X6]) (S' := [.ref 363, .int (xs (i + 2)), .int (xs (i + 1)), .ref 0]) rfl ?_
  refine hx_ok (a := 353) (b := 4) (as := [.ref 0, .int (xs (i + 1)), .int (xs (i + 2)), .ref 363]) (S' := []) rfl rfl (fun _ _ => rfl) (by decide) rfl rfl hh ?_
  refine hx_go 6 (pc' := 1261) (L' := [.ref 1000000, .ref 0, .ref 353, .ref 363, .int (jI (i : Int)), .int (jI (J2 353 0)), X6]) (S' := [.int (jI (i : Int) + Int32.ofInt 1), .ref 1000000, .ref 353]) rfl ?_
  refine hx_scj 1 rfl rfl (by omega) hN ?_
  refine hx_go 4 (pc' := 1267) (L' := [.ref 1000000, .ref 0, .ref 353, .ref 363, .int (jI (i : Int)), .int (jI (J2 353 0)), X6]) (S' := [.int (jI (i : Int) + Int32.ofInt 2), .ref 1000000, .int (xs (i + 1)), .ref 353]) rfl ?_
  refine hx_scj 2 rfl rfl (by omega) hN ?_
  refine hx_ok (a := 277) (b := 2) (as := [.ref 353, .int (xs (i + 1)), .int (xs (i + 2))]) (S' := []) rfl rfl (fun _ _ => rfl) (by decide) (zargI_ok rfl (zrecv_of (ci := 10) (by decide) h_353)) rfl (run_W (by decide) (by repeat' first | exact cln_n | apply cln_i | exact cln_c r353_ok cln_n | apply cln_c r353_ok | apply cln_c fl_ok) h2) ?_
  refine hx_go 2 (pc' := 1274) (L' := [.ref 1000000, .ref 0, .ref 353, .ref 363, .int (jI (i : Int)), .int (jI (J2 353 0)), .int (jI v)]) (S' := [.ref 353]) rfl ?_
  refine hx_ok (a := 175) (b := 0) (as := [.ref 353]) (S' := []) rfl rfl (fun _ _ => rfl) (by decide) (zargI_ok rfl (zrecv_of (ci := 10) (by decide) h_353)) rfl (run_of thr_run) ?_
  refine hx_go 1 (pc' := 1279) (L' := [.ref 1000000, .ref 0, .ref 353, .ref 363, .int (jI (i : Int)), .int (jI (J2 353 0)), .int (jI v)]) (S' := [.int (jI (J2 353 0)), .int (jI (J2 353 0))]) rfl ?_
  refine hx_ic rfl ?_
  refine hx_go 1 (pc' := 1286) (L' := [.ref 1000000, .ref 0, .ref 353, .ref 363, .int (jI (i : Int)), .int (jI (J2 353 0)), .int (jI v)]) (S' := [.int (jI (J2 353 0))]) rfl ?_
  by_cases h0 : J2 353 0 = 0
  · refine hx_n1' rfl (by rw [h0]; rfl) ?_
    refine hx_go 2 (pc' := 1291) (L' := [.ref 1000000, .ref 0, .ref 353, .ref 363, .int (jI (i : Int)), .int (jI (J2 353 0)), .int (jI v)]) (S' := [.int (Int32.ofInt 0), .ref 363]) rfl ?_
    refine hx_ll rfl ?_
    rw [hv h0]
    refine hx_go 2 (pc' := 1295) (L' := [.ref 1000000, .ref 0, .ref 353, .ref 363, .int (jI (i : Int)), .int (jI (J2 353 0)), .int (jI v)]) (S' := [.long (jI v).toInt64, .long (jI v).toInt64]) rfl ?_
    refine hx_lc rfl rfl ?_
    refine hx_go 1 (pc' := 3265) (L' := [.ref 1000000, .ref 0, .ref 353, .ref 363, .int (jI (i : Int)), .int (jI (J2 353 0)), .int (jI v)]) (S' := []) rfl ?_
    exact h9
  · refine hx_n0 rfl (by rw [ne_eq, jI_eq0 (by omega) (by omega)]; exact h0) ?_
    refine hx_go 1 (pc' := 3265) (L' := [.ref 1000000, .ref 0, .ref 353, .ref 363, .int (jI (i : Int)), .int (jI (J2 353 0)), .int (jI v)]) (S' := []) rfl ?_
    exact h9
/-- shippedCount -/
theorem cs_22 (hi : i + 6 ≤ N) (hN : N ≤ 3072) (g : GC J J) (t : GT k J) (k0 : 0 ≤ k) (k1 : k ≤ 21500) (nx : ∀ J' lg' Y5 Y6, GC J' J' → GT (k + 42) J' → lw N xs 3265 [.ref 1000000, .ref 0, .ref 353, .ref 363, .int (jI (i : Int)), Y5, Y6] [] J' lg' B) : lw N xs 1304 [.ref 1000000, .ref 0, .ref 353, .ref 363, .int (jI (i : Int)), X5, X6] [] J lg (B + 6) := by
  have hop : Op (lg, N, xs) k [] 121 278 [.ref 0] [.ref 353] := op_shippedCount (by omega)
  obtain ⟨o, J1, v, J2, h1, h2, gc, gt, mt⟩ := hop J g t
  have ho := mtc_0 mt
  subst ho
  obtain ⟨J9, lg9, u9, h9, b9⟩ := nx J2 lg X5 X6 gc gt
  refine ⟨J9, lg9, 0 + (0 + u9), ?_, by omega⟩
  refine hx_go 1 (pc' := 1305) (L' := [.ref 1000000, .ref 0, .ref 353, .ref 363, .int (jI (i : Int)), X5, X6]) (S' := [.ref 0]) rfl ?_
  refine hx_ok (a := 121) (b := 0) (as := [.ref 0]) (S' := []) rfl rfl (fun _ _ => rfl) (by decide) (zargI_ok rfl (zrecv_of (ci := 9) (by decide) h_0)) rfl (run_of h1) ?_
  refine hx_go 1 (pc' := 1309) (L' := [.ref 1000000, .ref 0, .ref 353, .ref 363, .int (jI (i : Int)), X5, X6]) (S' := [.ref 353, .int (jI v)]) rfl ?_
  refine hx_ok (a := 278) (b := 0) (as := [.ref 353]) (S' := [.int (jI v)]) rfl rfl (fun _ _ => rfl) (by decide) (zargI_ok rfl (zrecv_of (ci := 10) (by decide) h_353)) rfl (run_of h2) ?_
  refine hx_ic rfl ?_
  exact h9
/-- discardedCount -/
theorem cs_23 (hi : i + 6 ≤ N) (hN : N ≤ 3072) (g : GC J J) (t : GT k J) (k0 : 0 ≤ k) (k1 : k ≤ 21500) (nx : ∀ J' lg' Y5 Y6, GC J' J' → GT (k + 42) J' → lw N xs 3265 [.ref 1000000, .ref 0, .ref 353, .ref 363, .int (jI (i : Int)), Y5, Y6] [] J' lg' B) : lw N xs 1317 [.ref 1000000, .ref 0, .ref 353, .ref 363, .int (jI (i : Int)), X5, X6] [] J lg (B + 6) := by
  have hop : Op (lg, N, xs) k [] 122 279 [.ref 0] [.ref 353] := op_discardedCount (by omega)
  obtain ⟨o, J1, v, J2, h1, h2, gc, gt, mt⟩ := hop J g t
  have ho := mtc_0 mt
  subst ho
  obtain ⟨J9, lg9, u9, h9, b9⟩ := nx J2 lg X5 X6 gc gt
  refine ⟨J9, lg9, 0 + (0 + u9), ?_, by omega⟩
  refine hx_go 1 (pc' := 1318) (L' := [.ref 1000000, .ref 0, .ref 353, .ref 363, .int (jI (i : Int)), X5, X6]) (S' := [.ref 0]) rfl ?_
  refine hx_ok (a := 122) (b := 0) (as := [.ref 0]) (S' := []) rfl rfl (fun _ _ => rfl) (by decide) (zargI_ok rfl (zrecv_of (ci := 9) (by decide) h_0)) rfl (run_of h1) ?_
  refine hx_go 1 (pc' := 1322) (L' := [.ref 1000000, .ref 0, .ref 353, .ref 363, .int (jI (i : Int)), X5, X6]) (S' := [.ref 353, .int (jI v)]) rfl ?_
  refine hx_ok (a := 279) (b := 0) (as := [.ref 353]) (S' := [.int (jI v)]) rfl rfl (fun _ _ => rfl) (by decide) (zargI_ok rfl (zrecv_of (ci := 10) (by decide) h_353)) rfl (run_of h2) ?_
  refine hx_ic rfl ?_
  exact h9
/-- lowestTemperature -/
theorem cs_24 (hi : i + 6 ≤ N) (hN : N ≤ 3072) (g : GC J J) (t : GT k J) (k0 : 0 ≤ k) (k1 : k ≤ 21500) (nx : ∀ J' lg' Y5 Y6, GC J' J' → GT (k + 42) J' → lw N xs 3265 [.ref 1000000, .ref 0, .ref 353, .ref 363, .int (jI (i : Int)), Y5, Y6] [] J' lg' B) : lw N xs 1330 [.ref 1000000, .ref 0, .ref 353, .ref 363, .int (jI (i : Int)), X5, X6] [] J lg (B + 6) := by
  have hop : Op (lg, N, xs) k [0] 123 281 [.ref 0, .int (jI (xs (i + 1)).toInt)] [.ref 353, .int (jI (xs (i + 1)).toInt)] := op_lowestTemperature (by omega) (jI_lo _) (jI_hi _)
  obtain ⟨o, J1, v, J2, h1, h2, gc, gt, mt⟩ := hop J g t
  simp only [jI_of] at h1 h2
  obtain ⟨lg1, u1, hh, hu, hv⟩ := hp_354 (J1 := J1) (z0 := xs (i + 1)) h1 mt
  have tb := mtc_b mt (by decide)
  obtain ⟨J9, lg9, u9, h9, b9⟩ := nx J2 lg1 (.int (jI (J2 353 0))) (.int (jI v)) gc gt
  refine ⟨J9, lg9, u1 + (0 + (0 + u9)), ?_, by omega⟩
  refine hx_go 5 (pc' := 1336) (L' := [.ref 1000000, .ref 0, .ref 353, .ref 363, .int (jI (i : Int)), X5, X6]) (S' := [.int (jI (i : Int) + Int32.ofInt 1), .ref 1000000, .ref 0]) rfl ?_
  refine hx_scj 1 rfl rfl (by omega) hN ?_
  refine hx_go 1 (pc' := 1338) (L' := [.ref 1000000, .ref 0, .ref 353, .ref 363, .int (jI (i : Int)), X5, X6]) (S' := [.ref 363, .int (xs (i + 1)), .ref 0]) rfl ?_
  refine hx_ok (a := 354) (b := 3) (as := [.ref 0, .int (xs (i + 1)), .ref 363]) (S' := []) rfl rfl (fun _ _ => rfl) (by decide) rfl rfl hh ?_
  refine hx_go 6 (pc' := 1349) (L' := [.ref 1000000, .ref 0, .ref 353, .ref 363, .int (jI (i : Int)), .int (jI (J2 353 0)), X6]) (S' := [.int (jI (i : Int) + Int32.ofInt 1), .ref 1000000, .ref 353]) rfl ?_
  refine hx_scj 1 rfl rfl (by omega) hN ?_
  refine hx_ok (a := 281) (b := 1) (as := [.ref 353, .int (xs (i + 1))]) (S' := []) rfl rfl (fun _ _ => rfl) (by decide) (zargI_ok rfl (zrecv_of (ci := 10) (by decide) h_353)) rfl (run_W (by decide) (by repeat' first | exact cln_n | apply cln_i | exact cln_c r353_ok cln_n | apply cln_c r353_ok | apply cln_c fl_ok) h2) ?_
  refine hx_go 2 (pc' := 1356) (L' := [.ref 1000000, .ref 0, .ref 353, .ref 363, .int (jI (i : Int)), .int (jI (J2 353 0)), .int (jI v)]) (S' := [.ref 353]) rfl ?_
  refine hx_ok (a := 175) (b := 0) (as := [.ref 353]) (S' := []) rfl rfl (fun _ _ => rfl) (by decide) (zargI_ok rfl (zrecv_of (ci := 10) (by decide) h_353)) rfl (run_of thr_run) ?_
  refine hx_go 1 (pc' := 1361) (L' := [.ref 1000000, .ref 0, .ref 353, .ref 363, .int (jI (i : Int)), .int (jI (J2 353 0)), .int (jI v)]) (S' := [.int (jI (J2 353 0)), .int (jI (J2 353 0))]) rfl ?_
  refine hx_ic rfl ?_
  refine hx_go 1 (pc' := 1368) (L' := [.ref 1000000, .ref 0, .ref 353, .ref 363, .int (jI (i : Int)), .int (jI (J2 353 0)), .int (jI v)]) (S' := [.int (jI (J2 353 0))]) rfl ?_
  by_cases h0 : J2 353 0 = 0
  · refine hx_n1' rfl (by rw [h0]; rfl) ?_
    refine hx_go 2 (pc' := 1373) (L' := [.ref 1000000, .ref 0, .ref 353, .ref 363, .int (jI (i : Int)), .int (jI (J2 353 0)), .int (jI v)]) (S' := [.int (Int32.ofInt 0), .ref 363]) rfl ?_
    refine hx_ll rfl ?_
    rw [hv h0]
    refine hx_go 2 (pc' := 1377) (L' := [.ref 1000000, .ref 0, .ref 353, .ref 363, .int (jI (i : Int)), .int (jI (J2 353 0)), .int (jI v)]) (S' := [.long (jI v).toInt64, .long (jI v).toInt64]) rfl ?_
    refine hx_lc rfl rfl ?_
    refine hx_go 1 (pc' := 3265) (L' := [.ref 1000000, .ref 0, .ref 353, .ref 363, .int (jI (i : Int)), .int (jI (J2 353 0)), .int (jI v)]) (S' := []) rfl ?_
    exact h9
  · refine hx_n0 rfl (by rw [ne_eq, jI_eq0 (by omega) (by omega)]; exact h0) ?_
    refine hx_go 1 (pc' := 3265) (L' := [.ref 1000000, .ref 0, .ref 353, .ref 363, .int (jI (i : Int)), .int (jI (J2 353 0)), .int (jI v)]) (S' := []) rfl ?_
    exact h9
/-- highestTemperature -/
theorem cs_25 (hi : i + 6 ≤ N) (hN : N ≤ 3072) (g : GC J J) (t : GT k J) (k0 : 0 ≤ k) (k1 : k ≤ 21500) (nx : ∀ J' lg' Y5 Y6, GC J' J' → GT (k + 42) J' → lw N xs 3265 [.ref 1000000, .ref 0, .ref 353, .ref 363, .int (jI (i : Int)), Y5, Y6] [] J' lg' B) : lw N xs 1386 [.ref 1000000, .ref 0, .ref 353, .ref 363, .int (jI (i : Int)), X5, X6] [] J lg (B + 6) := by
  have hop : Op (lg, N, xs) k [0] 124 282 [.ref 0, .int (jI (xs (i + 1)).toInt)] [.ref 353, .int (jI (xs (i + 1)).toInt)] := op_highestTemperature (by omega) (jI_lo _) (jI_hi _)
  obtain ⟨o, J1, v, J2, h1, h2, gc, gt, mt⟩ := hop J g t
  simp only [jI_of] at h1 h2
  obtain ⟨lg1, u1, hh, hu, hv⟩ := hp_355 (J1 := J1) (z0 := xs (i + 1)) h1 mt
  have tb := mtc_b mt (by decide)
  obtain ⟨J9, lg9, u9, h9, b9⟩ := nx J2 lg1 (.int (jI (J2 353 0))) (.int (jI v)) gc gt
  refine ⟨J9, lg9, u1 + (0 + (0 + u9)), ?_, by omega⟩
  refine hx_go 5 (pc' := 1392) (L' := [.ref 1000000, .ref 0, .ref 353, .ref 363, .int (jI (i : Int)), X5, X6]) (S' := [.int (jI (i : Int) + Int32.ofInt 1), .ref 1000000, .ref 0]) rfl ?_
  refine hx_scj 1 rfl rfl (by omega) hN ?_
  refine hx_go 1 (pc' := 1394) (L' := [.ref 1000000, .ref 0, .ref 353, .ref 363, .int (jI (i : Int)), X5, X6]) (S' := [.ref 363, .int (xs (i + 1)), .ref 0]) rfl ?_
  refine hx_ok (a := 355) (b := 3) (as := [.ref 0, .int (xs (i + 1)), .ref 363]) (S' := []) rfl rfl (fun _ _ => rfl) (by decide) rfl rfl hh ?_
  refine hx_go 6 (pc' := 1405) (L' := [.ref 1000000, .ref 0, .ref 353, .ref 363, .int (jI (i : Int)), .int (jI (J2 353 0)), X6]) (S' := [.int (jI (i : Int) + Int32.ofInt 1), .ref 1000000, .ref 353]) rfl ?_
  refine hx_scj 1 rfl rfl (by omega) hN ?_
  refine hx_ok (a := 282) (b := 1) (as := [.ref 353, .int (xs (i + 1))]) (S' := []) rfl rfl (fun _ _ => rfl) (by decide) (zargI_ok rfl (zrecv_of (ci := 10) (by decide) h_353)) rfl (run_W (by decide) (by repeat' first | exact cln_n | apply cln_i | exact cln_c r353_ok cln_n | apply cln_c r353_ok | apply cln_c fl_ok) h2) ?_
  refine hx_go 2 (pc' := 1412) (L' := [.ref 1000000, .ref 0, .ref 353, .ref 363, .int (jI (i : Int)), .int (jI (J2 353 0)), .int (jI v)]) (S' := [.ref 353]) rfl ?_
  refine hx_ok (a := 175) (b := 0) (as := [.ref 353]) (S' := []) rfl rfl (fun _ _ => rfl) (by decide) (zargI_ok rfl (zrecv_of (ci := 10) (by decide) h_353)) rfl (run_of thr_run) ?_
  refine hx_go 1 (pc' := 1417) (L' := [.ref 1000000, .ref 0, .ref 353, .ref 363, .int (jI (i : Int)), .int (jI (J2 353 0)), .int (jI v)]) (S' := [.int (jI (J2 353 0)), .int (jI (J2 353 0))]) rfl ?_
  refine hx_ic rfl ?_
  refine hx_go 1 (pc' := 1424) (L' := [.ref 1000000, .ref 0, .ref 353, .ref 363, .int (jI (i : Int)), .int (jI (J2 353 0)), .int (jI v)]) (S' := [.int (jI (J2 353 0))]) rfl ?_
  by_cases h0 : J2 353 0 = 0
  · refine hx_n1' rfl (by rw [h0]; rfl) ?_
    refine hx_go 2 (pc' := 1429) (L' := [.ref 1000000, .ref 0, .ref 353, .ref 363, .int (jI (i : Int)), .int (jI (J2 353 0)), .int (jI v)]) (S' := [.int (Int32.ofInt 0), .ref 363]) rfl ?_
    refine hx_ll rfl ?_
    rw [hv h0]
    refine hx_go 2 (pc' := 1433) (L' := [.ref 1000000, .ref 0, .ref 353, .ref 363, .int (jI (i : Int)), .int (jI (J2 353 0)), .int (jI v)]) (S' := [.long (jI v).toInt64, .long (jI v).toInt64]) rfl ?_
    refine hx_lc rfl rfl ?_
    refine hx_go 1 (pc' := 3265) (L' := [.ref 1000000, .ref 0, .ref 353, .ref 363, .int (jI (i : Int)), .int (jI (J2 353 0)), .int (jI v)]) (S' := []) rfl ?_
    exact h9
  · refine hx_n0 rfl (by rw [ne_eq, jI_eq0 (by omega) (by omega)]; exact h0) ?_
    refine hx_go 1 (pc' := 3265) (L' := [.ref 1000000, .ref 0, .ref 353, .ref 363, .int (jI (i : Int)), .int (jI (J2 353 0)), .int (jI v)]) (S' := []) rfl ?_
    exact h9
/-- shelfLife -/
theorem cs_26 (hi : i + 6 ≤ N) (hN : N ≤ 3072) (g : GC J J) (t : GT k J) (k0 : 0 ≤ k) (k1 : k ≤ 21500) (nx : ∀ J' lg' Y5 Y6, GC J' J' → GT (k + 42) J' → lw N xs 3265 [.ref 1000000, .ref 0, .ref 353, .ref 363, .int (jI (i : Int)), Y5, Y6] [] J' lg' B) : lw N xs 1442 [.ref 1000000, .ref 0, .ref 353, .ref 363, .int (jI (i : Int)), X5, X6] [] J lg (B + 6) := by
  have hop : Op (lg, N, xs) k [0] 125 283 [.ref 0, .int (jI (xs (i + 1)).toInt)] [.ref 353, .int (jI (xs (i + 1)).toInt)] := op_shelfLife (by omega) (jI_lo _) (jI_hi _)
  obtain ⟨o, J1, v, J2, h1, h2, gc, gt, mt⟩ := hop J g t
  simp only [jI_of] at h1 h2
  obtain ⟨lg1, u1, hh, hu, hv⟩ := hp_356 (J1 := J1) (z0 := xs (i + 1)) h1 mt
  have tb := mtc_b mt (by decide)
  obtain ⟨J9, lg9, u9, h9, b9⟩ := nx J2 lg1 (.int (jI (J2 353 0))) (.int (jI v)) gc gt
  refine ⟨J9, lg9, u1 + (0 + (0 + u9)), ?_, by omega⟩
  refine hx_go 5 (pc' := 1448) (L' := [.ref 1000000, .ref 0, .ref 353, .ref 363, .int (jI (i : Int)), X5, X6]) (S' := [.int (jI (i : Int) + Int32.ofInt 1), .ref 1000000, .ref 0]) rfl ?_
  refine hx_scj 1 rfl rfl (by omega) hN ?_
  refine hx_go 1 (pc' := 1450) (L' := [.ref 1000000, .ref 0, .ref 353, .ref 363, .int (jI (i : Int)), X5, X6]) (S' := [.ref 363, .int (xs (i + 1)), .ref 0]) rfl ?_
  refine hx_ok (a := 356) (b := 3) (as := [.ref 0, .int (xs (i + 1)), .ref 363]) (S' := []) rfl rfl (fun _ _ => rfl) (by decide) rfl rfl hh ?_
  refine hx_go 6 (pc' := 1461) (L' := [.ref 1000000, .ref 0, .ref 353, .ref 363, .int (jI (i : Int)), .int (jI (J2 353 0)), X6]) (S' := [.int (jI (i : Int) + Int32.ofInt 1), .ref 1000000, .ref 353]) rfl ?_
  refine hx_scj 1 rfl rfl (by omega) hN ?_
  refine hx_ok (a := 283) (b := 1) (as := [.ref 353, .int (xs (i + 1))]) (S' := []) rfl rfl (fun _ _ => rfl) (by decide) (zargI_ok rfl (zrecv_of (ci := 10) (by decide) h_353)) rfl (run_W (by decide) (by repeat' first | exact cln_n | apply cln_i | exact cln_c r353_ok cln_n | apply cln_c r353_ok | apply cln_c fl_ok) h2) ?_
  refine hx_go 2 (pc' := 1468) (L' := [.ref 1000000, .ref 0, .ref 353, .ref 363, .int (jI (i : Int)), .int (jI (J2 353 0)), .int (jI v)]) (S' := [.ref 353]) rfl ?_
  refine hx_ok (a := 175) (b := 0) (as := [.ref 353]) (S' := []) rfl rfl (fun _ _ => rfl) (by decide) (zargI_ok rfl (zrecv_of (ci := 10) (by decide) h_353)) rfl (run_of thr_run) ?_
  refine hx_go 1 (pc' := 1473) (L' := [.ref 1000000, .ref 0, .ref 353, .ref 363, .int (jI (i : Int)), .int (jI (J2 353 0)), .int (jI v)]) (S' := [.int (jI (J2 353 0)), .int (jI (J2 353 0))]) rfl ?_
  refine hx_ic rfl ?_
  refine hx_go 1 (pc' := 1480) (L' := [.ref 1000000, .ref 0, .ref 353, .ref 363, .int (jI (i : Int)), .int (jI (J2 353 0)), .int (jI v)]) (S' := [.int (jI (J2 353 0))]) rfl ?_
  by_cases h0 : J2 353 0 = 0
  · refine hx_n1' rfl (by rw [h0]; rfl) ?_
    refine hx_go 2 (pc' := 1485) (L' := [.ref 1000000, .ref 0, .ref 353, .ref 363, .int (jI (i : Int)), .int (jI (J2 353 0)), .int (jI v)]) (S' := [.int (Int32.ofInt 0), .ref 363]) rfl ?_
    refine hx_ll rfl ?_
    rw [hv h0]
    refine hx_go 2 (pc' := 1489) (L' := [.ref 1000000, .ref 0, .ref 353, .ref 363, .int (jI (i : Int)), .int (jI (J2 353 0)), .int (jI v)]) (S' := [.long (jI v).toInt64, .long (jI v).toInt64]) rfl ?_
    refine hx_lc rfl rfl ?_
    refine hx_go 1 (pc' := 3265) (L' := [.ref 1000000, .ref 0, .ref 353, .ref 363, .int (jI (i : Int)), .int (jI (J2 353 0)), .int (jI v)]) (S' := []) rfl ?_
    exact h9
  · refine hx_n0 rfl (by rw [ne_eq, jI_eq0 (by omega) (by omega)]; exact h0) ?_
    refine hx_go 1 (pc' := 3265) (L' := [.ref 1000000, .ref 0, .ref 353, .ref 363, .int (jI (i : Int)), .int (jI (J2 353 0)), .int (jI v)]) (S' := []) rfl ?_
    exact h9
/-- taints -/
theorem cs_27 (hi : i + 6 ≤ N) (hN : N ≤ 3072) (g : GC J J) (t : GT k J) (k0 : 0 ≤ k) (k1 : k ≤ 21500) (nx : ∀ J' lg' Y5 Y6, GC J' J' → GT (k + 42) J' → lw N xs 3265 [.ref 1000000, .ref 0, .ref 353, .ref 363, .int (jI (i : Int)), Y5, Y6] [] J' lg' B) : lw N xs 1498 [.ref 1000000, .ref 0, .ref 353, .ref 363, .int (jI (i : Int)), X5, X6] [] J lg (B + 6) := by
  have hop : Op (lg, N, xs) k [0] 126 284 [.ref 0, .int (jI (xs (i + 1)).toInt), .int (jI (xs (i + 2)).toInt)] [.ref 353, .int (jI (xs (i + 1)).toInt), .int (jI (xs (i + 2)).toInt)] := op_taints (by omega) (jI_lo _) (jI_hi _) (jI_lo _) (jI_hi _)
  obtain ⟨o, J1, v, J2, h1, h2, gc, gt, mt⟩ := hop J g t
  simp only [jI_of] at h1 h2
  obtain ⟨lg1, u1, hh, hu, hv⟩ := hp_357 (J1 := J1) (z0 := xs (i + 1)) (z1 := xs (i + 2)) h1 mt
  have tb := mtc_b mt (by decide)
  obtain ⟨J9, lg9, u9, h9, b9⟩ := nx J2 lg1 (.int (jI (J2 353 0))) (.int (jI v)) gc gt
  refine ⟨J9, lg9, u1 + (0 + (0 + u9)), ?_, by omega⟩
  refine hx_go 5 (pc' := 1504) (L' := [.ref 1000000, .ref 0, .ref 353, .ref 363, .int (jI (i : Int)), X5, X6]) (S' := [.int (jI (i : Int) + Int32.ofInt 1), .ref 1000000, .ref 0]) rfl ?_
  refine hx_scj 1 rfl rfl (by omega) hN ?_
  refine hx_go 4 (pc' := 1510) (L' := [.ref 1000000, .ref 0, .ref 353, .ref 363, .int (jI (i : Int)), X5, X6]) (S' := [.int (jI (i : Int) + Int32.ofInt 2), .ref 1000000, .int (xs (i + 1)), .ref 0]) rfl ?_
  refine hx_scj 2 rfl rfl (by omega) hN ?_
  refine hx_go 1 (pc' := 1512) (L' := [.ref 1000000, .ref 0, .ref 353, .ref 363, .int (jI (i : Int)), X5, X6]) (S' := [.ref 363, .int (xs (i + 2)), .int (xs (i + 1)), .ref 0]) rfl ?_
  refine hx_ok (a := 357) (b := 4) (as := [.ref 0, .int (xs (i + 1)), .int (xs (i + 2)), .ref 363]) (S' := []) rfl rfl (fun _ _ => rfl) (by decide) rfl rfl hh ?_
  refine hx_go 6 (pc' := 1523) (L' := [.ref 1000000, .ref 0, .ref 353, .ref 363, .int (jI (i : Int)), .int (jI (J2 353 0)), X6]) (S' := [.int (jI (i : Int) + Int32.ofInt 1), .ref 1000000, .ref 353]) rfl ?_
  refine hx_scj 1 rfl rfl (by omega) hN ?_
  refine hx_go 4 (pc' := 1529) (L' := [.ref 1000000, .ref 0, .ref 353, .ref 363, .int (jI (i : Int)), .int (jI (J2 353 0)), X6]) (S' := [.int (jI (i : Int) + Int32.ofInt 2), .ref 1000000, .int (xs (i + 1)), .ref 353]) rfl ?_
  refine hx_scj 2 rfl rfl (by omega) hN ?_
  refine hx_ok (a := 284) (b := 2) (as := [.ref 353, .int (xs (i + 1)), .int (xs (i + 2))]) (S' := []) rfl rfl (fun _ _ => rfl) (by decide) (zargI_ok rfl (zrecv_of (ci := 10) (by decide) h_353)) rfl (run_W (by decide) (by repeat' first | exact cln_n | apply cln_i | exact cln_c r353_ok cln_n | apply cln_c r353_ok | apply cln_c fl_ok) h2) ?_
  refine hx_go 2 (pc' := 1536) (L' := [.ref 1000000, .ref 0, .ref 353, .ref 363, .int (jI (i : Int)), .int (jI (J2 353 0)), .int (jI v)]) (S' := [.ref 353]) rfl ?_
  refine hx_ok (a := 175) (b := 0) (as := [.ref 353]) (S' := []) rfl rfl (fun _ _ => rfl) (by decide) (zargI_ok rfl (zrecv_of (ci := 10) (by decide) h_353)) rfl (run_of thr_run) ?_
  refine hx_go 1 (pc' := 1541) (L' := [.ref 1000000, .ref 0, .ref 353, .ref 363, .int (jI (i : Int)), .int (jI (J2 353 0)), .int (jI v)]) (S' := [.int (jI (J2 353 0)), .int (jI (J2 353 0))]) rfl ?_
  refine hx_ic rfl ?_
  refine hx_go 1 (pc' := 1548) (L' := [.ref 1000000, .ref 0, .ref 353, .ref 363, .int (jI (i : Int)), .int (jI (J2 353 0)), .int (jI v)]) (S' := [.int (jI (J2 353 0))]) rfl ?_
  by_cases h0 : J2 353 0 = 0
  · refine hx_n1' rfl (by rw [h0]; rfl) ?_
    refine hx_go 2 (pc' := 1553) (L' := [.ref 1000000, .ref 0, .ref 353, .ref 363, .int (jI (i : Int)), .int (jI (J2 353 0)), .int (jI v)]) (S' := [.int (Int32.ofInt 0), .ref 363]) rfl ?_
    refine hx_ll rfl ?_
    rw [hv h0]
    refine hx_go 1 (pc' := 1556) (L' := [.ref 1000000, .ref 0, .ref 353, .ref 363, .int (jI (i : Int)), .int (jI (J2 353 0)), .int (jI v)]) (S' := [.int (jI v), .long (if jI v = 0 then 0 else 1)]) rfl ?_
    by_cases hv0 : jI v = 0
    · rw [if_pos hv0]
      refine hx_e0 rfl hv0 ?_
      refine hx_go 1 (pc' := 1564) (L' := [.ref 1000000, .ref 0, .ref 353, .ref 363, .int (jI (i : Int)), .int (jI (J2 353 0)), .int (jI v)]) (S' := [.long 0, .long 0]) rfl ?_
      refine hx_lc rfl rfl ?_
      refine hx_go 1 (pc' := 3265) (L' := [.ref 1000000, .ref 0, .ref 353, .ref 363, .int (jI (i : Int)), .int (jI (J2 353 0)), .int (jI v)]) (S' := []) rfl ?_
      exact h9
    · rw [if_neg hv0]
      refine hx_e1 rfl hv0 ?_
      refine hx_go 2 (pc' := 1564) (L' := [.ref 1000000, .ref 0, .ref 353, .ref 363, .int (jI (i : Int)), .int (jI (J2 353 0)), .int (jI v)]) (S' := [.long 1, .long 1]) rfl ?_
      refine hx_lc rfl rfl ?_
      refine hx_go 1 (pc' := 3265) (L' := [.ref 1000000, .ref 0, .ref 353, .ref 363, .int (jI (i : Int)), .int (jI (J2 353 0)), .int (jI v)]) (S' := []) rfl ?_
      exact h9
  · refine hx_n0 rfl (by rw [ne_eq, jI_eq0 (by omega) (by omega)]; exact h0) ?_
    refine hx_go 1 (pc' := 3265) (L' := [.ref 1000000, .ref 0, .ref 353, .ref 363, .int (jI (i : Int)), .int (jI (J2 353 0)), .int (jI v)]) (S' := []) rfl ?_
    exact h9
/-- zonesNeeded -/
theorem cs_28 (hi : i + 6 ≤ N) (hN : N ≤ 3072) (g : GC J J) (t : GT k J) (k0 : 0 ≤ k) (k1 : k ≤ 21500) (nx : ∀ J' lg' Y5 Y6, GC J' J' → GT (k + 42) J' → lw N xs 3265 [.ref 1000000, .ref 0, .ref 353, .ref 363, .int (jI (i : Int)), Y5, Y6] [] J' lg' B) : lw N xs 1573 [.ref 1000000, .ref 0, .ref 353, .ref 363, .int (jI (i : Int)), X5, X6] [] J lg (B + 6) := by
  have hop : Op (lg, N, xs) k [] 127 286 [.ref 0, .float 0, .float 0] [.ref 353, .float 0, .float 0] := op_zonesNeeded (by omega)
  obtain ⟨o, J1, v, J2, h1, h2, gc, gt, mt⟩ := hop J g t
  have ho := mtc_0 mt
  subst ho
  obtain ⟨J9, lg9, u9, h9, b9⟩ := nx J2 lg X5 X6 gc gt
  refine ⟨J9, lg9, 0 + (0 + u9), ?_, by omega⟩
  refine hx_go 1 (pc' := 1574) (L' := [.ref 1000000, .ref 0, .ref 353, .ref 363, .int (jI (i : Int)), X5, X6]) (S' := [.ref 0]) rfl ?_
  refine hx_ok (a := 127) (b := 0) (as := [.ref 0]) (S' := []) rfl rfl (fun _ _ => rfl) (by decide) (zargI_ok rfl (zrecv_of (ci := 9) (by decide) h_0)) rfl (run_of h1) ?_
  refine hx_go 1 (pc' := 1578) (L' := [.ref 1000000, .ref 0, .ref 353, .ref 363, .int (jI (i : Int)), X5, X6]) (S' := [.ref 353, .int (jI v)]) rfl ?_
  refine hx_ok (a := 286) (b := 0) (as := [.ref 353]) (S' := [.int (jI v)]) rfl rfl (fun _ _ => rfl) (by decide) (zargI_ok rfl (zrecv_of (ci := 10) (by decide) h_353)) rfl (run_of h2) ?_
  refine hx_ic rfl ?_
  exact h9
/-- zoneTemperature -/
theorem cs_29 (hi : i + 6 ≤ N) (hN : N ≤ 3072) (g : GC J J) (t : GT k J) (k0 : 0 ≤ k) (k1 : k ≤ 21500) (nx : ∀ J' lg' Y5 Y6, GC J' J' → GT (k + 42) J' → lw N xs 3265 [.ref 1000000, .ref 0, .ref 353, .ref 363, .int (jI (i : Int)), Y5, Y6] [] J' lg' B) : lw N xs 1586 [.ref 1000000, .ref 0, .ref 353, .ref 363, .int (jI (i : Int)), X5, X6] [] J lg (B + 6) := by
  have hop : Op (lg, N, xs) k [0] 128 287 [.ref 0, .int (jI (xs (i + 1)).toInt), .float 0, .float 0] [.ref 353, .int (jI (xs (i + 1)).toInt), .float 0, .float 0] := op_zoneTemperature (by omega) (jI_lo _) (jI_hi _)
  obtain ⟨o, J1, v, J2, h1, h2, gc, gt, mt⟩ := hop J g t
  simp only [jI_of] at h1 h2
  obtain ⟨lg1, u1, hh, hu, hv⟩ := hp_358 (J1 := J1) (z0 := xs (i + 1)) h1 mt
  have tb := mtc_b mt (by decide)
  obtain ⟨J9, lg9, u9, h9, b9⟩ := nx J2 lg1 (.int (jI (J2 353 0))) (.int (jI v)) gc gt
  refine ⟨J9, lg9, u1 + (0 + (0 + u9)), ?_, by omega⟩
  refine hx_go 5 (pc' := 1592) (L' := [.ref 1000000, .ref 0, .ref 353, .ref 363, .int (jI (i : Int)), X5, X6]) (S' := [.int (jI (i : Int) + Int32.ofInt 1), .ref 1000000, .ref 0]) rfl ?_
  refine hx_scj 1 rfl rfl (by omega) hN ?_
  refine hx_go 1 (pc' := 1594) (L' := [.ref 1000000, .ref 0, .ref 353, .ref 363, .int (jI (i : Int)), X5, X6]) (S' := [.ref 363, .int (xs (i + 1)), .ref 0]) rfl ?_
  refine hx_ok (a := 358) (b := 3) (as := [.ref 0, .int (xs (i + 1)), .ref 363]) (S' := []) rfl rfl (fun _ _ => rfl) (by decide) rfl rfl hh ?_
  refine hx_go 6 (pc' := 1605) (L' := [.ref 1000000, .ref 0, .ref 353, .ref 363, .int (jI (i : Int)), .int (jI (J2 353 0)), X6]) (S' := [.int (jI (i : Int) + Int32.ofInt 1), .ref 1000000, .ref 353]) rfl ?_
  refine hx_scj 1 rfl rfl (by omega) hN ?_
  refine hx_ok (a := 287) (b := 1) (as := [.ref 353, .int (xs (i + 1))]) (S' := []) rfl rfl (fun _ _ => rfl) (by decide) (zargI_ok rfl (zrecv_of (ci := 10) (by decide) h_353)) rfl (run_W (by decide) (by repeat' first | exact cln_n | apply cln_i | exact cln_c r353_ok cln_n | apply cln_c r353_ok | apply cln_c fl_ok) h2) ?_
  refine hx_go 2 (pc' := 1612) (L' := [.ref 1000000, .ref 0, .ref 353, .ref 363, .int (jI (i : Int)), .int (jI (J2 353 0)), .int (jI v)]) (S' := [.ref 353]) rfl ?_
  refine hx_ok (a := 175) (b := 0) (as := [.ref 353]) (S' := []) rfl rfl (fun _ _ => rfl) (by decide) (zargI_ok rfl (zrecv_of (ci := 10) (by decide) h_353)) rfl (run_of thr_run) ?_
  refine hx_go 1 (pc' := 1617) (L' := [.ref 1000000, .ref 0, .ref 353, .ref 363, .int (jI (i : Int)), .int (jI (J2 353 0)), .int (jI v)]) (S' := [.int (jI (J2 353 0)), .int (jI (J2 353 0))]) rfl ?_
  refine hx_ic rfl ?_
  refine hx_go 1 (pc' := 1624) (L' := [.ref 1000000, .ref 0, .ref 353, .ref 363, .int (jI (i : Int)), .int (jI (J2 353 0)), .int (jI v)]) (S' := [.int (jI (J2 353 0))]) rfl ?_
  by_cases h0 : J2 353 0 = 0
  · refine hx_n1' rfl (by rw [h0]; rfl) ?_
    refine hx_go 2 (pc' := 1629) (L' := [.ref 1000000, .ref 0, .ref 353, .ref 363, .int (jI (i : Int)), .int (jI (J2 353 0)), .int (jI v)]) (S' := [.int (Int32.ofInt 0), .ref 363]) rfl ?_
    refine hx_ll rfl ?_
    rw [hv h0]
    refine hx_go 2 (pc' := 1633) (L' := [.ref 1000000, .ref 0, .ref 353, .ref 363, .int (jI (i : Int)), .int (jI (J2 353 0)), .int (jI v)]) (S' := [.long (jI v).toInt64, .long (jI v).toInt64]) rfl ?_
    refine hx_lc rfl rfl ?_
    refine hx_go 1 (pc' := 3265) (L' := [.ref 1000000, .ref 0, .ref 353, .ref 363, .int (jI (i : Int)), .int (jI (J2 353 0)), .int (jI v)]) (S' := []) rfl ?_
    exact h9
  · refine hx_n0 rfl (by rw [ne_eq, jI_eq0 (by omega) (by omega)]; exact h0) ?_
    refine hx_go 1 (pc' := 3265) (L' := [.ref 1000000, .ref 0, .ref 353, .ref 363, .int (jI (i : Int)), .int (jI (J2 353 0)), .int (jI v)]) (S' := []) rfl ?_
    exact h9
end
