/-! ===== the law's cases, from 30 on ===== -/
section
variable {N : Nat} {xs : Nat → Int32} {i B : Nat} {J : zJ} {lg : Nat → Nat → Int64} {k : Int} {X5 X6 : Value}
/-- goodsOf -/
theorem cs_30 (hi : i + 6 ≤ N) (hN : N ≤ 3072) (g : GC J J) (t : GT k J) (k0 : 0 ≤ k) (k1 : k ≤ 21500) (nx : ∀ J' lg' Y5 Y6, GC J' J' → GT (k + 42) J' → lw N xs 3265 [.ref 1000000, .ref 0, .ref 353, .ref 363, .int (jI (i : Int)), Y5, Y6] [] J' lg' B) : lw N xs 1642 [.ref 1000000, .ref 0, .ref 353, .ref 363, .int (jI (i : Int)), X5, X6] [] J lg (B + 6) := by
  have hop : Op (lg, N, xs) k [0] 129 289 [.ref 0, .int (jI (xs (i + 1)).toInt)] [.ref 353, .int (jI (xs (i + 1)).toInt)] := op_goodsOf (by omega) (jI_lo _) (jI_hi _)
  obtain ⟨o, J1, v, J2, h1, h2, gc, gt, mt⟩ := hop J g t
  simp only [jI_of] at h1 h2
  obtain ⟨lg1, u1, hh, hu, hv⟩ := hp_359 (J1 := J1) (z0 := xs (i + 1)) h1 mt
  have tb := mtc_b mt (by decide)
  obtain ⟨J9, lg9, u9, h9, b9⟩ := nx J2 lg1 (.int (jI (J2 353 0))) (.int (jI v)) gc gt
  refine ⟨J9, lg9, u1 + (0 + (0 + u9)), ?_, by omega⟩
  refine hx_go 5 (pc' := 1648) (L' := [.ref 1000000, .ref 0, .ref 353, .ref 363, .int (jI (i : Int)), X5, X6]) (S' := [.int (jI (i : Int) + Int32.ofInt 1), .ref 1000000, .ref 0]) rfl ?_
  refine hx_scj 1 rfl rfl (by omega) hN ?_
  refine hx_go 1 (pc' := 1650) (L' := [.ref 1000000, .ref 0, .ref 353, .ref 363, .int (jI (i : Int)), X5, X6]) (S' := [.ref 363, .int (xs (i + 1)), .ref 0]) rfl ?_
  refine hx_ok (a := 359) (b := 3) (as := [.ref 0, .int (xs (i + 1)), .ref 363]) (S' := []) rfl rfl (fun _ _ => rfl) (by decide) rfl rfl hh ?_
  refine hx_go 6 (pc' := 1661) (L' := [.ref 1000000, .ref 0, .ref 353, .ref 363, .int (jI (i : Int)), .int (jI (J2 353 0)), X6]) (S' := [.int (jI (i : Int) + Int32.ofInt 1), .ref 1000000, .ref 353]) rfl ?_
  refine hx_scj 1 rfl rfl (by omega) hN ?_
  refine hx_ok (a := 289) (b := 1) (as := [.ref 353, .int (xs (i + 1))]) (S' := []) rfl rfl (fun _ _ => rfl) (by decide) (zargI_ok rfl (zrecv_of (ci := 10) (by decide) h_353)) rfl (run_W (by decide) (by repeat' first | exact cln_n | apply cln_i | exact cln_c r353_ok cln_n | apply cln_c r353_ok | apply cln_c fl_ok) h2) ?_
  refine hx_go 2 (pc' := 1668) (L' := [.ref 1000000, .ref 0, .ref 353, .ref 363, .int (jI (i : Int)), .int (jI (J2 353 0)), .int (jI v)]) (S' := [.ref 353]) rfl ?_
  refine hx_ok (a := 175) (b := 0) (as := [.ref 353]) (S' := []) rfl rfl (fun _ _ => rfl) (by decide) (zargI_ok rfl (zrecv_of (ci := 10) (by decide) h_353)) rfl (run_of thr_run) ?_
  refine hx_go 1 (pc' := 1673) (L' := [.ref 1000000, .ref 0, .ref 353, .ref 363, .int (jI (i : Int)), .int (jI (J2 353 0)), .int (jI v)]) (S' := [.int (jI (J2 353 0)), .int (jI (J2 353 0))]) rfl ?_
  refine hx_ic rfl ?_
  refine hx_go 1 (pc' := 1680) (L' := [.ref 1000000, .ref 0, .ref 353, .ref 363, .int (jI (i : Int)), .int (jI (J2 353 0)), .int (jI v)]) (S' := [.int (jI (J2 353 0))]) rfl ?_
  by_cases h0 : J2 353 0 = 0
  · refine hx_n1' rfl (by rw [h0]; rfl) ?_
    refine hx_go 2 (pc' := 1685) (L' := [.ref 1000000, .ref 0, .ref 353, .ref 363, .int (jI (i : Int)), .int (jI (J2 353 0)), .int (jI v)]) (S' := [.int (Int32.ofInt 0), .ref 363]) rfl ?_
    refine hx_ll rfl ?_
    rw [hv h0]
    refine hx_go 2 (pc' := 1689) (L' := [.ref 1000000, .ref 0, .ref 353, .ref 363, .int (jI (i : Int)), .int (jI (J2 353 0)), .int (jI v)]) (S' := [.long (jI v).toInt64, .long (jI v).toInt64]) rfl ?_
    refine hx_lc rfl rfl ?_
    refine hx_go 1 (pc' := 3265) (L' := [.ref 1000000, .ref 0, .ref 353, .ref 363, .int (jI (i : Int)), .int (jI (J2 353 0)), .int (jI v)]) (S' := []) rfl ?_
    exact h9
  · refine hx_n0 rfl (by rw [ne_eq, jI_eq0 (by omega) (by omega)]; exact h0) ?_
    refine hx_go 1 (pc' := 3265) (L' := [.ref 1000000, .ref 0, .ref 353, .ref 363, .int (jI (i : Int)), .int (jI (J2 353 0)), .int (jI v)]) (S' := []) rfl ?_
    exact h9
/-- stateOf -/
theorem cs_31 (hi : i + 6 ≤ N) (hN : N ≤ 3072) (g : GC J J) (t : GT k J) (k0 : 0 ≤ k) (k1 : k ≤ 21500) (nx : ∀ J' lg' Y5 Y6, GC J' J' → GT (k + 42) J' → lw N xs 3265 [.ref 1000000, .ref 0, .ref 353, .ref 363, .int (jI (i : Int)), Y5, Y6] [] J' lg' B) : lw N xs 1698 [.ref 1000000, .ref 0, .ref 353, .ref 363, .int (jI (i : Int)), X5, X6] [] J lg (B + 6) := by
  have hop : Op (lg, N, xs) k [0] 130 290 [.ref 0, .int (jI (xs (i + 1)).toInt)] [.ref 353, .int (jI (xs (i + 1)).toInt)] := op_stateOf (by omega) (jI_lo _) (jI_hi _)
  obtain ⟨o, J1, v, J2, h1, h2, gc, gt, mt⟩ := hop J g t
  simp only [jI_of] at h1 h2
  obtain ⟨lg1, u1, hh, hu, hv⟩ := hp_360 (J1 := J1) (z0 := xs (i + 1)) h1 mt
  have tb := mtc_b mt (by decide)
  obtain ⟨J9, lg9, u9, h9, b9⟩ := nx J2 lg1 (.int (jI (J2 353 0))) (.int (jI v)) gc gt
  refine ⟨J9, lg9, u1 + (0 + (0 + u9)), ?_, by omega⟩
  refine hx_go 5 (pc' := 1704) (L' := [.ref 1000000, .ref 0, .ref 353, .ref 363, .int (jI (i : Int)), X5, X6]) (S' := [.int (jI (i : Int) + Int32.ofInt 1), .ref 1000000, .ref 0]) rfl ?_
  refine hx_scj 1 rfl rfl (by omega) hN ?_
  refine hx_go 1 (pc' := 1706) (L' := [.ref 1000000, .ref 0, .ref 353, .ref 363, .int (jI (i : Int)), X5, X6]) (S' := [.ref 363, .int (xs (i + 1)), .ref 0]) rfl ?_
  refine hx_ok (a := 360) (b := 3) (as := [.ref 0, .int (xs (i + 1)), .ref 363]) (S' := []) rfl rfl (fun _ _ => rfl) (by decide) rfl rfl hh ?_
  refine hx_go 6 (pc' := 1717) (L' := [.ref 1000000, .ref 0, .ref 353, .ref 363, .int (jI (i : Int)), .int (jI (J2 353 0)), X6]) (S' := [.int (jI (i : Int) + Int32.ofInt 1), .ref 1000000, .ref 353]) rfl ?_
  refine hx_scj 1 rfl rfl (by omega) hN ?_
  refine hx_ok (a := 290) (b := 1) (as := [.ref 353, .int (xs (i + 1))]) (S' := []) rfl rfl (fun _ _ => rfl) (by decide) (zargI_ok rfl (zrecv_of (ci := 10) (by decide) h_353)) rfl (run_W (by decide) (by repeat' first | exact cln_n | apply cln_i | exact cln_c r353_ok cln_n | apply cln_c r353_ok | apply cln_c fl_ok) h2) ?_
  refine hx_go 2 (pc' := 1724) (L' := [.ref 1000000, .ref 0, .ref 353, .ref 363, .int (jI (i : Int)), .int (jI (J2 353 0)), .int (jI v)]) (S' := [.ref 353]) rfl ?_
  refine hx_ok (a := 175) (b := 0) (as := [.ref 353]) (S' := []) rfl rfl (fun _ _ => rfl) (by decide) (zargI_ok rfl (zrecv_of (ci := 10) (by decide) h_353)) rfl (run_of thr_run) ?_
  refine hx_go 1 (pc' := 1729) (L' := [.ref 1000000, .ref 0, .ref 353, .ref 363, .int (jI (i : Int)), .int (jI (J2 353 0)), .int (jI v)]) (S' := [.int (jI (J2 353 0)), .int (jI (J2 353 0))]) rfl ?_
  refine hx_ic rfl ?_
  refine hx_go 1 (pc' := 1736) (L' := [.ref 1000000, .ref 0, .ref 353, .ref 363, .int (jI (i : Int)), .int (jI (J2 353 0)), .int (jI v)]) (S' := [.int (jI (J2 353 0))]) rfl ?_
  by_cases h0 : J2 353 0 = 0
  · refine hx_n1' rfl (by rw [h0]; rfl) ?_
    refine hx_go 2 (pc' := 1741) (L' := [.ref 1000000, .ref 0, .ref 353, .ref 363, .int (jI (i : Int)), .int (jI (J2 353 0)), .int (jI v)]) (S' := [.int (Int32.ofInt 0), .ref 363]) rfl ?_
    refine hx_ll rfl ?_
    rw [hv h0]
    refine hx_go 2 (pc' := 1745) (L' := [.ref 1000000, .ref 0, .ref 353, .ref 363, .int (jI (i : Int)), .int (jI (J2 353 0)), .int (jI v)]) (S' := [.long (jI v).toInt64, .long (jI v).toInt64]) rfl ?_
    refine hx_lc rfl rfl ?_
    refine hx_go 1 (pc' := 3265) (L' := [.ref 1000000, .ref 0, .ref 353, .ref 363, .int (jI (i : Int)), .int (jI (J2 353 0)), .int (jI v)]) (S' := []) rfl ?_
    exact h9
  · refine hx_n0 rfl (by rw [ne_eq, jI_eq0 (by omega) (by omega)]; exact h0) ?_
    refine hx_go 1 (pc' := 3265) (L' := [.ref 1000000, .ref 0, .ref 353, .ref 363, .int (jI (i : Int)), .int (jI (J2 353 0)), .int (jI v)]) (S' := []) rfl ?_
    exact h9
/-- chamberOf -/
theorem cs_32 (hi : i + 6 ≤ N) (hN : N ≤ 3072) (g : GC J J) (t : GT k J) (k0 : 0 ≤ k) (k1 : k ≤ 21500) (nx : ∀ J' lg' Y5 Y6, GC J' J' → GT (k + 42) J' → lw N xs 3265 [.ref 1000000, .ref 0, .ref 353, .ref 363, .int (jI (i : Int)), Y5, Y6] [] J' lg' B) : lw N xs 1754 [.ref 1000000, .ref 0, .ref 353, .ref 363, .int (jI (i : Int)), X5, X6] [] J lg (B + 6) := by
  have hop : Op (lg, N, xs) k [0] 131 291 [.ref 0, .int (jI (xs (i + 1)).toInt)] [.ref 353, .int (jI (xs (i + 1)).toInt), .float 0] := op_chamberOf (by omega) (jI_lo _) (jI_hi _)
  obtain ⟨o, J1, v, J2, h1, h2, gc, gt, mt⟩ := hop J g t
  simp only [jI_of] at h1 h2
  obtain ⟨lg1, u1, hh, hu, hv⟩ := hp_361 (J1 := J1) (z0 := xs (i + 1)) h1 mt
  have tb := mtc_b mt (by decide)
  obtain ⟨J9, lg9, u9, h9, b9⟩ := nx J2 lg1 (.int (jI (J2 353 0))) (.int (jI v)) gc gt
  refine ⟨J9, lg9, u1 + (0 + (0 + u9)), ?_, by omega⟩
  refine hx_go 5 (pc' := 1760) (L' := [.ref 1000000, .ref 0, .ref 353, .ref 363, .int (jI (i : Int)), X5, X6]) (S' := [.int (jI (i : Int) + Int32.ofInt 1), .ref 1000000, .ref 0]) rfl ?_
  refine hx_scj 1 rfl rfl (by omega) hN ?_
  refine hx_go 1 (pc' := 1762) (L' := [.ref 1000000, .ref 0, .ref 353, .ref 363, .int (jI (i : Int)), X5, X6]) (S' := [.ref 363, .int (xs (i + 1)), .ref 0]) rfl ?_
  refine hx_ok (a := 361) (b := 3) (as := [.ref 0, .int (xs (i + 1)), .ref 363]) (S' := []) rfl rfl (fun _ _ => rfl) (by decide) rfl rfl hh ?_
  refine hx_go 6 (pc' := 1773) (L' := [.ref 1000000, .ref 0, .ref 353, .ref 363, .int (jI (i : Int)), .int (jI (J2 353 0)), X6]) (S' := [.int (jI (i : Int) + Int32.ofInt 1), .ref 1000000, .ref 353]) rfl ?_
  refine hx_scj 1 rfl rfl (by omega) hN ?_
  refine hx_ok (a := 291) (b := 1) (as := [.ref 353, .int (xs (i + 1))]) (S' := []) rfl rfl (fun _ _ => rfl) (by decide) (zargI_ok rfl (zrecv_of (ci := 10) (by decide) h_353)) rfl (run_W (by decide) (by repeat' first | exact cln_n | apply cln_i | exact cln_c r353_ok cln_n | apply cln_c r353_ok | apply cln_c fl_ok) h2) ?_
  refine hx_go 2 (pc' := 1780) (L' := [.ref 1000000, .ref 0, .ref 353, .ref 363, .int (jI (i : Int)), .int (jI (J2 353 0)), .int (jI v)]) (S' := [.ref 353]) rfl ?_
  refine hx_ok (a := 175) (b := 0) (as := [.ref 353]) (S' := []) rfl rfl (fun _ _ => rfl) (by decide) (zargI_ok rfl (zrecv_of (ci := 10) (by decide) h_353)) rfl (run_of thr_run) ?_
  refine hx_go 1 (pc' := 1785) (L' := [.ref 1000000, .ref 0, .ref 353, .ref 363, .int (jI (i : Int)), .int (jI (J2 353 0)), .int (jI v)]) (S' := [.int (jI (J2 353 0)), .int (jI (J2 353 0))]) rfl ?_
  refine hx_ic rfl ?_
  refine hx_go 1 (pc' := 1792) (L' := [.ref 1000000, .ref 0, .ref 353, .ref 363, .int (jI (i : Int)), .int (jI (J2 353 0)), .int (jI v)]) (S' := [.int (jI (J2 353 0))]) rfl ?_
  by_cases h0 : J2 353 0 = 0
  · refine hx_n1' rfl (by rw [h0]; rfl) ?_
    refine hx_go 2 (pc' := 1797) (L' := [.ref 1000000, .ref 0, .ref 353, .ref 363, .int (jI (i : Int)), .int (jI (J2 353 0)), .int (jI v)]) (S' := [.int (Int32.ofInt 0), .ref 363]) rfl ?_
    refine hx_ll rfl ?_
    rw [hv h0]
    refine hx_go 2 (pc' := 1801) (L' := [.ref 1000000, .ref 0, .ref 353, .ref 363, .int (jI (i : Int)), .int (jI (J2 353 0)), .int (jI v)]) (S' := [.long (jI v).toInt64, .long (jI v).toInt64]) rfl ?_
    refine hx_lc rfl rfl ?_
    refine hx_go 1 (pc' := 3265) (L' := [.ref 1000000, .ref 0, .ref 353, .ref 363, .int (jI (i : Int)), .int (jI (J2 353 0)), .int (jI v)]) (S' := []) rfl ?_
    exact h9
  · refine hx_n0 rfl (by rw [ne_eq, jI_eq0 (by omega) (by omega)]; exact h0) ?_
    refine hx_go 1 (pc' := 3265) (L' := [.ref 1000000, .ref 0, .ref 353, .ref 363, .int (jI (i : Int)), .int (jI (J2 353 0)), .int (jI v)]) (S' := []) rfl ?_
    exact h9
/-- cellOf -/
theorem cs_33 (hi : i + 6 ≤ N) (hN : N ≤ 3072) (g : GC J J) (t : GT k J) (k0 : 0 ≤ k) (k1 : k ≤ 21500) (nx : ∀ J' lg' Y5 Y6, GC J' J' → GT (k + 42) J' → lw N xs 3265 [.ref 1000000, .ref 0, .ref 353, .ref 363, .int (jI (i : Int)), Y5, Y6] [] J' lg' B) : lw N xs 1810 [.ref 1000000, .ref 0, .ref 353, .ref 363, .int (jI (i : Int)), X5, X6] [] J lg (B + 6) := by
  have hop : Op (lg, N, xs) k [0] 132 292 [.ref 0, .int (jI (xs (i + 1)).toInt), .float 0, .float 0] [.ref 353, .int (jI (xs (i + 1)).toInt), .float 0, .float 0] := op_cellOf (by omega) (jI_lo _) (jI_hi _)
  obtain ⟨o, J1, v, J2, h1, h2, gc, gt, mt⟩ := hop J g t
  simp only [jI_of] at h1 h2
  obtain ⟨lg1, u1, hh, hu, hv⟩ := hp_362 (J1 := J1) (z0 := xs (i + 1)) h1 mt
  have tb := mtc_b mt (by decide)
  obtain ⟨J9, lg9, u9, h9, b9⟩ := nx J2 lg1 (.int (jI (J2 353 0))) (.int (jI v)) gc gt
  refine ⟨J9, lg9, u1 + (0 + (0 + u9)), ?_, by omega⟩
  refine hx_go 5 (pc' := 1816) (L' := [.ref 1000000, .ref 0, .ref 353, .ref 363, .int (jI (i : Int)), X5, X6]) (S' := [.int (jI (i : Int) + Int32.ofInt 1), .ref 1000000, .ref 0]) rfl ?_
  refine hx_scj 1 rfl rfl (by omega) hN ?_
  refine hx_go 1 (pc' := 1818) (L' := [.ref 1000000, .ref 0, .ref 353, .ref 363, .int (jI (i : Int)), X5, X6]) (S' := [.ref 363, .int (xs (i + 1)), .ref 0]) rfl ?_
  refine hx_ok (a := 362) (b := 3) (as := [.ref 0, .int (xs (i + 1)), .ref 363]) (S' := []) rfl rfl (fun _ _ => rfl) (by decide) rfl rfl hh ?_
  refine hx_go 6 (pc' := 1829) (L' := [.ref 1000000, .ref 0, .ref 353, .ref 363, .int (jI (i : Int)), .int (jI (J2 353 0)), X6]) (S' := [.int (jI (i : Int) + Int32.ofInt 1), .ref 1000000, .ref 353]) rfl ?_
  refine hx_scj 1 rfl rfl (by omega) hN ?_
  refine hx_ok (a := 292) (b := 1) (as := [.ref 353, .int (xs (i + 1))]) (S' := []) rfl rfl (fun _ _ => rfl) (by decide) (zargI_ok rfl (zrecv_of (ci := 10) (by decide) h_353)) rfl (run_W (by decide) (by repeat' first | exact cln_n | apply cln_i | exact cln_c r353_ok cln_n | apply cln_c r353_ok | apply cln_c fl_ok) h2) ?_
  refine hx_go 2 (pc' := 1836) (L' := [.ref 1000000, .ref 0, .ref 353, .ref 363, .int (jI (i : Int)), .int (jI (J2 353 0)), .int (jI v)]) (S' := [.ref 353]) rfl ?_
  refine hx_ok (a := 175) (b := 0) (as := [.ref 353]) (S' := []) rfl rfl (fun _ _ => rfl) (by decide) (zargI_ok rfl (zrecv_of (ci := 10) (by decide) h_353)) rfl (run_of thr_run) ?_
  refine hx_go 1 (pc' := 1841) (L' := [.ref 1000000, .ref 0, .ref 353, .ref 363, .int (jI (i : Int)), .int (jI (J2 353 0)), .int (jI v)]) (S' := [.int (jI (J2 353 0)), .int (jI (J2 353 0))]) rfl ?_
  refine hx_ic rfl ?_
  refine hx_go 1 (pc' := 1848) (L' := [.ref 1000000, .ref 0, .ref 353, .ref 363, .int (jI (i : Int)), .int (jI (J2 353 0)), .int (jI v)]) (S' := [.int (jI (J2 353 0))]) rfl ?_
  by_cases h0 : J2 353 0 = 0
  · refine hx_n1' rfl (by rw [h0]; rfl) ?_
    refine hx_go 2 (pc' := 1853) (L' := [.ref 1000000, .ref 0, .ref 353, .ref 363, .int (jI (i : Int)), .int (jI (J2 353 0)), .int (jI v)]) (S' := [.int (Int32.ofInt 0), .ref 363]) rfl ?_
    refine hx_ll rfl ?_
    rw [hv h0]
    refine hx_go 2 (pc' := 1857) (L' := [.ref 1000000, .ref 0, .ref 353, .ref 363, .int (jI (i : Int)), .int (jI (J2 353 0)), .int (jI v)]) (S' := [.long (jI v).toInt64, .long (jI v).toInt64]) rfl ?_
    refine hx_lc rfl rfl ?_
    refine hx_go 1 (pc' := 3265) (L' := [.ref 1000000, .ref 0, .ref 353, .ref 363, .int (jI (i : Int)), .int (jI (J2 353 0)), .int (jI v)]) (S' := []) rfl ?_
    exact h9
  · refine hx_n0 rfl (by rw [ne_eq, jI_eq0 (by omega) (by omega)]; exact h0) ?_
    refine hx_go 1 (pc' := 3265) (L' := [.ref 1000000, .ref 0, .ref 353, .ref 363, .int (jI (i : Int)), .int (jI (J2 353 0)), .int (jI v)]) (S' := []) rfl ?_
    exact h9
/-- arrivalDay -/
theorem cs_34 (hi : i + 6 ≤ N) (hN : N ≤ 3072) (g : GC J J) (t : GT k J) (k0 : 0 ≤ k) (k1 : k ≤ 21500) (nx : ∀ J' lg' Y5 Y6, GC J' J' → GT (k + 42) J' → lw N xs 3265 [.ref 1000000, .ref 0, .ref 353, .ref 363, .int (jI (i : Int)), Y5, Y6] [] J' lg' B) : lw N xs 1866 [.ref 1000000, .ref 0, .ref 353, .ref 363, .int (jI (i : Int)), X5, X6] [] J lg (B + 6) := by
  have hop : Op (lg, N, xs) k [0] 133 293 [.ref 0, .int (jI (xs (i + 1)).toInt)] [.ref 353, .int (jI (xs (i + 1)).toInt)] := op_arrivalDay (by omega) (jI_lo _) (jI_hi _)
  obtain ⟨o, J1, v, J2, h1, h2, gc, gt, mt⟩ := hop J g t
  simp only [jI_of] at h1 h2
  obtain ⟨lg1, u1, hh, hu, hv⟩ := hp_363 (J1 := J1) (z0 := xs (i + 1)) h1 mt
  have tb := mtc_b mt (by decide)
  obtain ⟨J9, lg9, u9, h9, b9⟩ := nx J2 lg1 (.int (jI (J2 353 0))) (.int (jI v)) gc gt
  refine ⟨J9, lg9, u1 + (0 + (0 + u9)), ?_, by omega⟩
  refine hx_go 5 (pc' := 1872) (L' := [.ref 1000000, .ref 0, .ref 353, .ref 363, .int (jI (i : Int)), X5, X6]) (S' := [.int (jI (i : Int) + Int32.ofInt 1), .ref 1000000, .ref 0]) rfl ?_
  refine hx_scj 1 rfl rfl (by omega) hN ?_
  refine hx_go 1 (pc' := 1874) (L' := [.ref 1000000, .ref 0, .ref 353, .ref 363, .int (jI (i : Int)), X5, X6]) (S' := [.ref 363, .int (xs (i + 1)), .ref 0]) rfl ?_
  refine hx_ok (a := 363) (b := 3) (as := [.ref 0, .int (xs (i + 1)), .ref 363]) (S' := []) rfl rfl (fun _ _ => rfl) (by decide) rfl rfl hh ?_
  refine hx_go 6 (pc' := 1885) (L' := [.ref 1000000, .ref 0, .ref 353, .ref 363, .int (jI (i : Int)), .int (jI (J2 353 0)), X6]) (S' := [.int (jI (i : Int) + Int32.ofInt 1), .ref 1000000, .ref 353]) rfl ?_
  refine hx_scj 1 rfl rfl (by omega) hN ?_
  refine hx_ok (a := 293) (b := 1) (as := [.ref 353, .int (xs (i + 1))]) (S' := []) rfl rfl (fun _ _ => rfl) (by decide) (zargI_ok rfl (zrecv_of (ci := 10) (by decide) h_353)) rfl (run_W (by decide) (by repeat' first | exact cln_n | apply cln_i | exact cln_c r353_ok cln_n | apply cln_c r353_ok | apply cln_c fl_ok) h2) ?_
  refine hx_go 2 (pc' := 1892) (L' := [.ref 1000000, .ref 0, .ref 353, .ref 363, .int (jI (i : Int)), .int (jI (J2 353 0)), .int (jI v)]) (S' := [.ref 353]) rfl ?_
  refine hx_ok (a := 175) (b := 0) (as := [.ref 353]) (S' := []) rfl rfl (fun _ _ => rfl) (by decide) (zargI_ok rfl (zrecv_of (ci := 10) (by decide) h_353)) rfl (run_of thr_run) ?_
  refine hx_go 1 (pc' := 1897) (L' := [.ref 1000000, .ref 0, .ref 353, .ref 363, .int (jI (i : Int)), .int (jI (J2 353 0)), .int (jI v)]) (S' := [.int (jI (J2 353 0)), .int (jI (J2 353 0))]) rfl ?_
  refine hx_ic rfl ?_
  refine hx_go 1 (pc' := 1904) (L' := [.ref 1000000, .ref 0, .ref 353, .ref 363, .int (jI (i : Int)), .int (jI (J2 353 0)), .int (jI v)]) (S' := [.int (jI (J2 353 0))]) rfl ?_
  by_cases h0 : J2 353 0 = 0
  · refine hx_n1' rfl (by rw [h0]; rfl) ?_
    refine hx_go 2 (pc' := 1909) (L' := [.ref 1000000, .ref 0, .ref 353, .ref 363, .int (jI (i : Int)), .int (jI (J2 353 0)), .int (jI v)]) (S' := [.int (Int32.ofInt 0), .ref 363]) rfl ?_
    refine hx_ll rfl ?_
    rw [hv h0]
    refine hx_go 2 (pc' := 1913) (L' := [.ref 1000000, .ref 0, .ref 353, .ref 363, .int (jI (i : Int)), .int (jI (J2 353 0)), .int (jI v)]) (S' := [.long (jI v).toInt64, .long (jI v).toInt64]) rfl ?_
    refine hx_lc rfl rfl ?_
    refine hx_go 1 (pc' := 3265) (L' := [.ref 1000000, .ref 0, .ref 353, .ref 363, .int (jI (i : Int)), .int (jI (J2 353 0)), .int (jI v)]) (S' := []) rfl ?_
    exact h9
  · refine hx_n0 rfl (by rw [ne_eq, jI_eq0 (by omega) (by omega)]; exact h0) ?_
    refine hx_go 1 (pc' := 3265) (L' := [.ref 1000000, .ref 0, .ref 353, .ref 363, .int (jI (i : Int)), .int (jI (J2 353 0)), .int (jI v)]) (S' := []) rfl ?_
    exact h9
/-- heat -/
theorem cs_35 (hi : i + 6 ≤ N) (hN : N ≤ 3072) (g : GC J J) (t : GT k J) (k0 : 0 ≤ k) (k1 : k ≤ 21500) (nx : ∀ J' lg' Y5 Y6, GC J' J' → GT (k + 42) J' → lw N xs 3265 [.ref 1000000, .ref 0, .ref 353, .ref 363, .int (jI (i : Int)), Y5, Y6] [] J' lg' B) : lw N xs 1922 [.ref 1000000, .ref 0, .ref 353, .ref 363, .int (jI (i : Int)), X5, X6] [] J lg (B + 6) := by
  have hop : Op (lg, N, xs) k [0] 134 294 [.ref 0, .int (jI (xs (i + 1)).toInt)] [.ref 353, .int (jI (xs (i + 1)).toInt)] := op_heat (by omega) (jI_lo _) (jI_hi _)
  obtain ⟨o, J1, v, J2, h1, h2, gc, gt, mt⟩ := hop J g t
  simp only [jI_of] at h1 h2
  obtain ⟨lg1, u1, hh, hu, hv⟩ := hp_364 (J1 := J1) (z0 := xs (i + 1)) h1 mt
  have tb := mtc_b mt (by decide)
  obtain ⟨J9, lg9, u9, h9, b9⟩ := nx J2 lg1 (.int (jI (J2 353 0))) (.int (jI v)) gc gt
  refine ⟨J9, lg9, u1 + (0 + (0 + u9)), ?_, by omega⟩
  refine hx_go 5 (pc' := 1928) (L' := [.ref 1000000, .ref 0, .ref 353, .ref 363, .int (jI (i : Int)), X5, X6]) (S' := [.int (jI (i : Int) + Int32.ofInt 1), .ref 1000000, .ref 0]) rfl ?_
  refine hx_scj 1 rfl rfl (by omega) hN ?_
  refine hx_go 1 (pc' := 1930) (L' := [.ref 1000000, .ref 0, .ref 353, .ref 363, .int (jI (i : Int)), X5, X6]) (S' := [.ref 363, .int (xs (i + 1)), .ref 0]) rfl ?_
  refine hx_ok (a := 364) (b := 3) (as := [.ref 0, .int (xs (i + 1)), .ref 363]) (S' := []) rfl rfl (fun _ _ => rfl) (by decide) rfl rfl hh ?_
  refine hx_go 6 (pc' := 1941) (L' := [.ref 1000000, .ref 0, .ref 353, .ref 363, .int (jI (i : Int)), .int (jI (J2 353 0)), X6]) (S' := [.int (jI (i : Int) + Int32.ofInt 1), .ref 1000000, .ref 353]) rfl ?_
  refine hx_scj 1 rfl rfl (by omega) hN ?_
  refine hx_ok (a := 294) (b := 1) (as := [.ref 353, .int (xs (i + 1))]) (S' := []) rfl rfl (fun _ _ => rfl) (by decide) (zargI_ok rfl (zrecv_of (ci := 10) (by decide) h_353)) rfl (run_W (by decide) (by repeat' first | exact cln_n | apply cln_i | exact cln_c r353_ok cln_n | apply cln_c r353_ok | apply cln_c fl_ok) h2) ?_
  refine hx_go 2 (pc' := 1948) (L' := [.ref 1000000, .ref 0, .ref 353, .ref 363, .int (jI (i : Int)), .int (jI (J2 353 0)), .int (jI v)]) (S' := [.ref 353]) rfl ?_
  refine hx_ok (a := 175) (b := 0) (as := [.ref 353]) (S' := []) rfl rfl (fun _ _ => rfl) (by decide) (zargI_ok rfl (zrecv_of (ci := 10) (by decide) h_353)) rfl (run_of thr_run) ?_
  refine hx_go 1 (pc' := 1953) (L' := [.ref 1000000, .ref 0, .ref 353, .ref 363, .int (jI (i : Int)), .int (jI (J2 353 0)), .int (jI v)]) (S' := [.int (jI (J2 353 0)), .int (jI (J2 353 0))]) rfl ?_
  refine hx_ic rfl ?_
  refine hx_go 1 (pc' := 1960) (L' := [.ref 1000000, .ref 0, .ref 353, .ref 363, .int (jI (i : Int)), .int (jI (J2 353 0)), .int (jI v)]) (S' := [.int (jI (J2 353 0))]) rfl ?_
  by_cases h0 : J2 353 0 = 0
  · refine hx_n1' rfl (by rw [h0]; rfl) ?_
    refine hx_go 2 (pc' := 1965) (L' := [.ref 1000000, .ref 0, .ref 353, .ref 363, .int (jI (i : Int)), .int (jI (J2 353 0)), .int (jI v)]) (S' := [.int (Int32.ofInt 0), .ref 363]) rfl ?_
    refine hx_ll rfl ?_
    rw [hv h0]
    refine hx_go 2 (pc' := 1969) (L' := [.ref 1000000, .ref 0, .ref 353, .ref 363, .int (jI (i : Int)), .int (jI (J2 353 0)), .int (jI v)]) (S' := [.long (jI v).toInt64, .long (jI v).toInt64]) rfl ?_
    refine hx_lc rfl rfl ?_
    refine hx_go 1 (pc' := 3265) (L' := [.ref 1000000, .ref 0, .ref 353, .ref 363, .int (jI (i : Int)), .int (jI (J2 353 0)), .int (jI v)]) (S' := []) rfl ?_
    exact h9
  · refine hx_n0 rfl (by rw [ne_eq, jI_eq0 (by omega) (by omega)]; exact h0) ?_
    refine hx_go 1 (pc' := 3265) (L' := [.ref 1000000, .ref 0, .ref 353, .ref 363, .int (jI (i : Int)), .int (jI (J2 353 0)), .int (jI v)]) (S' := []) rfl ?_
    exact h9
/-- taint -/
theorem cs_36 (hi : i + 6 ≤ N) (hN : N ≤ 3072) (g : GC J J) (t : GT k J) (k0 : 0 ≤ k) (k1 : k ≤ 21500) (nx : ∀ J' lg' Y5 Y6, GC J' J' → GT (k + 42) J' → lw N xs 3265 [.ref 1000000, .ref 0, .ref 353, .ref 363, .int (jI (i : Int)), Y5, Y6] [] J' lg' B) : lw N xs 1978 [.ref 1000000, .ref 0, .ref 353, .ref 363, .int (jI (i : Int)), X5, X6] [] J lg (B + 6) := by
  have hop : Op (lg, N, xs) k [0] 135 295 [.ref 0, .int (jI (xs (i + 1)).toInt)] [.ref 353, .int (jI (xs (i + 1)).toInt)] := op_taint (by omega) (jI_lo _) (jI_hi _)
  obtain ⟨o, J1, v, J2, h1, h2, gc, gt, mt⟩ := hop J g t
  simp only [jI_of] at h1 h2
  obtain ⟨lg1, u1, hh, hu, hv⟩ := hp_365 (J1 := J1) (z0 := xs (i + 1)) h1 mt
  have tb := mtc_b mt (by decide)
  obtain ⟨J9, lg9, u9, h9, b9⟩ := nx J2 lg1 (.int (jI (J2 353 0))) (.int (jI v)) gc gt
  refine ⟨J9, lg9, u1 + (0 + (0 + u9)), ?_, by omega⟩
  refine hx_go 5 (pc' := 1984) (L' := [.ref 1000000, .ref 0, .ref 353, .ref 363, .int (jI (i : Int)), X5, X6]) (S' := [.int (jI (i : Int) + Int32.ofInt 1), .ref 1000000, .ref 0]) rfl ?_
  refine hx_scj 1 rfl rfl (by omega) hN ?_
  refine hx_go 1 (pc' := 1986) (L' := [.ref 1000000, .ref 0, .ref 353, .ref 363, .int (jI (i : Int)), X5, X6]) (S' := [.ref 363, .int (xs (i + 1)), .ref 0]) rfl ?_
  refine hx_ok (a := 365) (b := 3) (as := [.ref 0, .int (xs (i + 1)), .ref 363]) (S' := []) rfl rfl (fun _ _ => rfl) (by decide) rfl rfl hh ?_
  refine hx_go 6 (pc' := 1997) (L' := [.ref 1000000, .ref 0, .ref 353, .ref 363, .int (jI (i : Int)), .int (jI (J2 353 0)), X6]) (S' := [.int (jI (i : Int) + Int32.ofInt 1), .ref 1000000, .ref 353]) rfl ?_
  refine hx_scj 1 rfl rfl (by omega) hN ?_
  refine hx_ok (a := 295) (b := 1) (as := [.ref 353, .int (xs (i + 1))]) (S' := []) rfl rfl (fun _ _ => rfl) (by decide) (zargI_ok rfl (zrecv_of (ci := 10) (by decide) h_353)) rfl (run_W (by decide) (by repeat' first | exact cln_n | apply cln_i | exact cln_c r353_ok cln_n | apply cln_c r353_ok | apply cln_c fl_ok) h2) ?_
  refine hx_go 2 (pc' := 2004) (L' := [.ref 1000000, .ref 0, .ref 353, .ref 363, .int (jI (i : Int)), .int (jI (J2 353 0)), .int (jI v)]) (S' := [.ref 353]) rfl ?_
  refine hx_ok (a := 175) (b := 0) (as := [.ref 353]) (S' := []) rfl rfl (fun _ _ => rfl) (by decide) (zargI_ok rfl (zrecv_of (ci := 10) (by decide) h_353)) rfl (run_of thr_run) ?_
  refine hx_go 1 (pc' := 2009) (L' := [.ref 1000000, .ref 0, .ref 353, .ref 363, .int (jI (i : Int)), .int (jI (J2 353 0)), .int (jI v)]) (S' := [.int (jI (J2 353 0)), .int (jI (J2 353 0))]) rfl ?_
  refine hx_ic rfl ?_
  refine hx_go 1 (pc' := 2016) (L' := [.ref 1000000, .ref 0, .ref 353, .ref 363, .int (jI (i : Int)), .int (jI (J2 353 0)), .int (jI v)]) (S' := [.int (jI (J2 353 0))]) rfl ?_
  by_cases h0 : J2 353 0 = 0
  · refine hx_n1' rfl (by rw [h0]; rfl) ?_
    refine hx_go 2 (pc' := 2021) (L' := [.ref 1000000, .ref 0, .ref 353, .ref 363, .int (jI (i : Int)), .int (jI (J2 353 0)), .int (jI v)]) (S' := [.int (Int32.ofInt 0), .ref 363]) rfl ?_
    refine hx_ll rfl ?_
    rw [hv h0]
    refine hx_go 2 (pc' := 2025) (L' := [.ref 1000000, .ref 0, .ref 353, .ref 363, .int (jI (i : Int)), .int (jI (J2 353 0)), .int (jI v)]) (S' := [.long (jI v).toInt64, .long (jI v).toInt64]) rfl ?_
    refine hx_lc rfl rfl ?_
    refine hx_go 1 (pc' := 3265) (L' := [.ref 1000000, .ref 0, .ref 353, .ref 363, .int (jI (i : Int)), .int (jI (J2 353 0)), .int (jI v)]) (S' := []) rfl ?_
    exact h9
  · refine hx_n0 rfl (by rw [ne_eq, jI_eq0 (by omega) (by omega)]; exact h0) ?_
    refine hx_go 1 (pc' := 3265) (L' := [.ref 1000000, .ref 0, .ref 353, .ref 363, .int (jI (i : Int)), .int (jI (J2 353 0)), .int (jI v)]) (S' := []) rfl ?_
    exact h9
/-- isSpoiled -/
theorem cs_37 (hi : i + 6 ≤ N) (hN : N ≤ 3072) (g : GC J J) (t : GT k J) (k0 : 0 ≤ k) (k1 : k ≤ 21500) (nx : ∀ J' lg' Y5 Y6, GC J' J' → GT (k + 42) J' → lw N xs 3265 [.ref 1000000, .ref 0, .ref 353, .ref 363, .int (jI (i : Int)), Y5, Y6] [] J' lg' B) : lw N xs 2034 [.ref 1000000, .ref 0, .ref 353, .ref 363, .int (jI (i : Int)), X5, X6] [] J lg (B + 6) := by
  have hop : Op (lg, N, xs) k [0] 136 296 [.ref 0, .int (jI (xs (i + 1)).toInt)] [.ref 353, .int (jI (xs (i + 1)).toInt)] := op_isSpoiled (by omega) (jI_lo _) (jI_hi _)
  obtain ⟨o, J1, v, J2, h1, h2, gc, gt, mt⟩ := hop J g t
  simp only [jI_of] at h1 h2
  obtain ⟨lg1, u1, hh, hu, hv⟩ := hp_366 (J1 := J1) (z0 := xs (i + 1)) h1 mt
  have tb := mtc_b mt (by decide)
  obtain ⟨J9, lg9, u9, h9, b9⟩ := nx J2 lg1 (.int (jI (J2 353 0))) (.int (jI v)) gc gt
  refine ⟨J9, lg9, u1 + (0 + (0 + u9)), ?_, by omega⟩
  refine hx_go 5 (pc' := 2040) (L' := [.ref 1000000, .ref 0, .ref 353, .ref 363, .int (jI (i : Int)), X5, X6]) (S' := [.int (jI (i : Int) + Int32.ofInt 1), .ref 1000000, .ref 0]) rfl ?_
  refine hx_scj 1 rfl rfl (by omega) hN ?_
  refine hx_go 1 (pc' := 2042) (L' := [.ref 1000000, .ref 0, .ref 353, .ref 363, .int (jI (i : Int)), X5, X6]) (S' := [.ref 363, .int (xs (i + 1)), .ref 0]) rfl ?_
  refine hx_ok (a := 366) (b := 3) (as := [.ref 0, .int (xs (i + 1)), .ref 363]) (S' := []) rfl rfl (fun _ _ => rfl) (by decide) rfl rfl hh ?_
  refine hx_go 6 (pc' := 2053) (L' := [.ref 1000000, .ref 0, .ref 353, .ref 363, .int (jI (i : Int)), .int (jI (J2 353 0)), X6]) (S' := [.int (jI (i : Int) + Int32.ofInt 1), .ref 1000000, .ref 353]) rfl ?_
  refine hx_scj 1 rfl rfl (by omega) hN ?_
  refine hx_ok (a := 296) (b := 1) (as := [.ref 353, .int (xs (i + 1))]) (S' := []) rfl rfl (fun _ _ => rfl) (by decide) (zargI_ok rfl (zrecv_of (ci := 10) (by decide) h_353)) rfl (run_W (by decide) (by repeat' first | exact cln_n | apply cln_i | exact cln_c r353_ok cln_n | apply cln_c r353_ok | apply cln_c fl_ok) h2) ?_
  refine hx_go 2 (pc' := 2060) (L' := [.ref 1000000, .ref 0, .ref 353, .ref 363, .int (jI (i : Int)), .int (jI (J2 353 0)), .int (jI v)]) (S' := [.ref 353]) rfl ?_
  refine hx_ok (a := 175) (b := 0) (as := [.ref 353]) (S' := []) rfl rfl (fun _ _ => rfl) (by decide) (zargI_ok rfl (zrecv_of (ci := 10) (by decide) h_353)) rfl (run_of thr_run) ?_
  refine hx_go 1 (pc' := 2065) (L' := [.ref 1000000, .ref 0, .ref 353, .ref 363, .int (jI (i : Int)), .int (jI (J2 353 0)), .int (jI v)]) (S' := [.int (jI (J2 353 0)), .int (jI (J2 353 0))]) rfl ?_
  refine hx_ic rfl ?_
  refine hx_go 1 (pc' := 2072) (L' := [.ref 1000000, .ref 0, .ref 353, .ref 363, .int (jI (i : Int)), .int (jI (J2 353 0)), .int (jI v)]) (S' := [.int (jI (J2 353 0))]) rfl ?_
  by_cases h0 : J2 353 0 = 0
  · refine hx_n1' rfl (by rw [h0]; rfl) ?_
    refine hx_go 2 (pc' := 2077) (L' := [.ref 1000000, .ref 0, .ref 353, .ref 363, .int (jI (i : Int)), .int (jI (J2 353 0)), .int (jI v)]) (S' := [.int (Int32.ofInt 0), .ref 363]) rfl ?_
    refine hx_ll rfl ?_
    rw [hv h0]
    refine hx_go 1 (pc' := 2080) (L' := [.ref 1000000, .ref 0, .ref 353, .ref 363, .int (jI (i : Int)), .int (jI (J2 353 0)), .int (jI v)]) (S' := [.int (jI v), .long (if jI v = 0 then 0 else 1)]) rfl ?_
    by_cases hv0 : jI v = 0
    · rw [if_pos hv0]
      refine hx_e0 rfl hv0 ?_
      refine hx_go 1 (pc' := 2088) (L' := [.ref 1000000, .ref 0, .ref 353, .ref 363, .int (jI (i : Int)), .int (jI (J2 353 0)), .int (jI v)]) (S' := [.long 0, .long 0]) rfl ?_
      refine hx_lc rfl rfl ?_
      refine hx_go 1 (pc' := 3265) (L' := [.ref 1000000, .ref 0, .ref 353, .ref 363, .int (jI (i : Int)), .int (jI (J2 353 0)), .int (jI v)]) (S' := []) rfl ?_
      exact h9
    · rw [if_neg hv0]
      refine hx_e1 rfl hv0 ?_
      refine hx_go 2 (pc' := 2088) (L' := [.ref 1000000, .ref 0, .ref 353, .ref 363, .int (jI (i : Int)), .int (jI (J2 353 0)), .int (jI v)]) (S' := [.long 1, .long 1]) rfl ?_
      refine hx_lc rfl rfl ?_
      refine hx_go 1 (pc' := 3265) (L' := [.ref 1000000, .ref 0, .ref 353, .ref 363, .int (jI (i : Int)), .int (jI (J2 353 0)), .int (jI v)]) (S' := []) rfl ?_
      exact h9
  · refine hx_n0 rfl (by rw [ne_eq, jI_eq0 (by omega) (by omega)]; exact h0) ?_
    refine hx_go 1 (pc' := 3265) (L' := [.ref 1000000, .ref 0, .ref 353, .ref 363, .int (jI (i : Int)), .int (jI (J2 353 0)), .int (jI v)]) (S' := []) rfl ?_
    exact h9
/-- daysLeft -/
theorem cs_38 (hi : i + 6 ≤ N) (hN : N ≤ 3072) (g : GC J J) (t : GT k J) (k0 : 0 ≤ k) (k1 : k ≤ 21500) (nx : ∀ J' lg' Y5 Y6, GC J' J' → GT (k + 42) J' → lw N xs 3265 [.ref 1000000, .ref 0, .ref 353, .ref 363, .int (jI (i : Int)), Y5, Y6] [] J' lg' B) : lw N xs 2097 [.ref 1000000, .ref 0, .ref 353, .ref 363, .int (jI (i : Int)), X5, X6] [] J lg (B + 6) := by
  have hop : Op (lg, N, xs) k [0, 2, 3] 137 267 [.ref 0, .int (jI (xs (i + 1)).toInt), .float 0] [.ref 353, .int (jI (xs (i + 1)).toInt), .float 0] := op_daysLeft (by omega) (by omega) (jI_lo _) (jI_hi _)
  obtain ⟨o, J1, v, J2, h1, h2, gc, gt, mt⟩ := hop J g t
  simp only [jI_of] at h1 h2
  obtain ⟨lg1, u1, hh, hu, hv⟩ := hp_367 (J1 := J1) (z0 := xs (i + 1)) h1 mt
  have tb := mtc_b mt (by decide)
  obtain ⟨J9, lg9, u9, h9, b9⟩ := nx J2 lg1 (.int (jI (J2 353 0))) (.int (jI v)) gc gt
  refine ⟨J9, lg9, u1 + (0 + (0 + u9)), ?_, by omega⟩
  refine hx_go 5 (pc' := 2103) (L' := [.ref 1000000, .ref 0, .ref 353, .ref 363, .int (jI (i : Int)), X5, X6]) (S' := [.int (jI (i : Int) + Int32.ofInt 1), .ref 1000000, .ref 0]) rfl ?_
  refine hx_scj 1 rfl rfl (by omega) hN ?_
  refine hx_go 1 (pc' := 2105) (L' := [.ref 1000000, .ref 0, .ref 353, .ref 363, .int (jI (i : Int)), X5, X6]) (S' := [.ref 363, .int (xs (i + 1)), .ref 0]) rfl ?_
  refine hx_ok (a := 367) (b := 3) (as := [.ref 0, .int (xs (i + 1)), .ref 363]) (S' := []) rfl rfl (fun _ _ => rfl) (by decide) rfl rfl hh ?_
  refine hx_go 6 (pc' := 2116) (L' := [.ref 1000000, .ref 0, .ref 353, .ref 363, .int (jI (i : Int)), .int (jI (J2 353 0)), X6]) (S' := [.int (jI (i : Int) + Int32.ofInt 1), .ref 1000000, .ref 353]) rfl ?_
  refine hx_scj 1 rfl rfl (by omega) hN ?_
  refine hx_ok (a := 267) (b := 1) (as := [.ref 353, .int (xs (i + 1))]) (S' := []) rfl rfl (fun _ _ => rfl) (by decide) (zargI_ok rfl (zrecv_of (ci := 10) (by decide) h_353)) rfl (run_W (by decide) (by repeat' first | exact cln_n | apply cln_i | exact cln_c r353_ok cln_n | apply cln_c r353_ok | apply cln_c fl_ok) h2) ?_
  refine hx_go 2 (pc' := 2123) (L' := [.ref 1000000, .ref 0, .ref 353, .ref 363, .int (jI (i : Int)), .int (jI (J2 353 0)), .int (jI v)]) (S' := [.ref 353]) rfl ?_
  refine hx_ok (a := 175) (b := 0) (as := [.ref 353]) (S' := []) rfl rfl (fun _ _ => rfl) (by decide) (zargI_ok rfl (zrecv_of (ci := 10) (by decide) h_353)) rfl (run_of thr_run) ?_
  refine hx_go 1 (pc' := 2128) (L' := [.ref 1000000, .ref 0, .ref 353, .ref 363, .int (jI (i : Int)), .int (jI (J2 353 0)), .int (jI v)]) (S' := [.int (jI (J2 353 0)), .int (jI (J2 353 0))]) rfl ?_
  refine hx_ic rfl ?_
  refine hx_go 1 (pc' := 2135) (L' := [.ref 1000000, .ref 0, .ref 353, .ref 363, .int (jI (i : Int)), .int (jI (J2 353 0)), .int (jI v)]) (S' := [.int (jI (J2 353 0))]) rfl ?_
  by_cases h0 : J2 353 0 = 0
  · refine hx_n1' rfl (by rw [h0]; rfl) ?_
    refine hx_go 2 (pc' := 2140) (L' := [.ref 1000000, .ref 0, .ref 353, .ref 363, .int (jI (i : Int)), .int (jI (J2 353 0)), .int (jI v)]) (S' := [.int (Int32.ofInt 0), .ref 363]) rfl ?_
    refine hx_ll rfl ?_
    rw [hv h0]
    refine hx_go 2 (pc' := 2144) (L' := [.ref 1000000, .ref 0, .ref 353, .ref 363, .int (jI (i : Int)), .int (jI (J2 353 0)), .int (jI v)]) (S' := [.long (jI v).toInt64, .long (jI v).toInt64]) rfl ?_
    refine hx_lc rfl rfl ?_
    refine hx_go 1 (pc' := 3265) (L' := [.ref 1000000, .ref 0, .ref 353, .ref 363, .int (jI (i : Int)), .int (jI (J2 353 0)), .int (jI v)]) (S' := []) rfl ?_
    exact h9
  · refine hx_n0 rfl (by rw [ne_eq, jI_eq0 (by omega) (by omega)]; exact h0) ?_
    refine hx_go 1 (pc' := 3265) (L' := [.ref 1000000, .ref 0, .ref 353, .ref 363, .int (jI (i : Int)), .int (jI (J2 353 0)), .int (jI v)]) (S' := []) rfl ?_
    exact h9
/-- spoiledCount -/
theorem cs_39 (hi : i + 6 ≤ N) (hN : N ≤ 3072) (g : GC J J) (t : GT k J) (k0 : 0 ≤ k) (k1 : k ≤ 21500) (nx : ∀ J' lg' Y5 Y6, GC J' J' → GT (k + 42) J' → lw N xs 3265 [.ref 1000000, .ref 0, .ref 353, .ref 363, .int (jI (i : Int)), Y5, Y6] [] J' lg' B) : lw N xs 2153 [.ref 1000000, .ref 0, .ref 353, .ref 363, .int (jI (i : Int)), X5, X6] [] J lg (B + 6) := by
  have hop : Op (lg, N, xs) k [] 138 269 [.ref 0] [.ref 353, .float 0, .float 0] := op_spoiledCount (by omega)
  obtain ⟨o, J1, v, J2, h1, h2, gc, gt, mt⟩ := hop J g t
  have ho := mtc_0 mt
  subst ho
  obtain ⟨J9, lg9, u9, h9, b9⟩ := nx J2 lg X5 X6 gc gt
  refine ⟨J9, lg9, 0 + (0 + u9), ?_, by omega⟩
  refine hx_go 1 (pc' := 2154) (L' := [.ref 1000000, .ref 0, .ref 353, .ref 363, .int (jI (i : Int)), X5, X6]) (S' := [.ref 0]) rfl ?_
  refine hx_ok (a := 138) (b := 0) (as := [.ref 0]) (S' := []) rfl rfl (fun _ _ => rfl) (by decide) (zargI_ok rfl (zrecv_of (ci := 9) (by decide) h_0)) rfl (run_of h1) ?_
  refine hx_go 1 (pc' := 2158) (L' := [.ref 1000000, .ref 0, .ref 353, .ref 363, .int (jI (i : Int)), X5, X6]) (S' := [.ref 353, .int (jI v)]) rfl ?_
  refine hx_ok (a := 269) (b := 0) (as := [.ref 353]) (S' := [.int (jI v)]) rfl rfl (fun _ _ => rfl) (by decide) (zargI_ok rfl (zrecv_of (ci := 10) (by decide) h_353)) rfl (run_of h2) ?_
  refine hx_ic rfl ?_
  exact h9
/-- spoilsWithin -/
theorem cs_40 (hi : i + 6 ≤ N) (hN : N ≤ 3072) (g : GC J J) (t : GT k J) (k0 : 0 ≤ k) (k1 : k ≤ 21500) (nx : ∀ J' lg' Y5 Y6, GC J' J' → GT (k + 42) J' → lw N xs 3265 [.ref 1000000, .ref 0, .ref 353, .ref 363, .int (jI (i : Int)), Y5, Y6] [] J' lg' B) : lw N xs 2166 [.ref 1000000, .ref 0, .ref 353, .ref 363, .int (jI (i : Int)), X5, X6] [] J lg (B + 6) := by
  have hop : Op (lg, N, xs) k [1] 139 268 [.ref 0, .int (jI (xs (i + 1)).toInt)] [.ref 353, .int (jI (xs (i + 1)).toInt), .float 0] := op_spoilsWithin (by omega) (by omega) (jI_lo _) (jI_hi _)
  obtain ⟨o, J1, v, J2, h1, h2, gc, gt, mt⟩ := hop J g t
  simp only [jI_of] at h1 h2
  obtain ⟨lg1, u1, hh, hu, hv⟩ := hp_368 (J1 := J1) (z0 := xs (i + 1)) h1 mt
  have tb := mtc_b mt (by decide)
  obtain ⟨J9, lg9, u9, h9, b9⟩ := nx J2 lg1 (.int (jI (J2 353 0))) (.int (jI v)) gc gt
  refine ⟨J9, lg9, u1 + (0 + (0 + u9)), ?_, by omega⟩
  refine hx_go 5 (pc' := 2172) (L' := [.ref 1000000, .ref 0, .ref 353, .ref 363, .int (jI (i : Int)), X5, X6]) (S' := [.int (jI (i : Int) + Int32.ofInt 1), .ref 1000000, .ref 0]) rfl ?_
  refine hx_scj 1 rfl rfl (by omega) hN ?_
  refine hx_go 1 (pc' := 2174) (L' := [.ref 1000000, .ref 0, .ref 353, .ref 363, .int (jI (i : Int)), X5, X6]) (S' := [.ref 363, .int (xs (i + 1)), .ref 0]) rfl ?_
  refine hx_ok (a := 368) (b := 3) (as := [.ref 0, .int (xs (i + 1)), .ref 363]) (S' := []) rfl rfl (fun _ _ => rfl) (by decide) rfl rfl hh ?_
  refine hx_go 6 (pc' := 2185) (L' := [.ref 1000000, .ref 0, .ref 353, .ref 363, .int (jI (i : Int)), .int (jI (J2 353 0)), X6]) (S' := [.int (jI (i : Int) + Int32.ofInt 1), .ref 1000000, .ref 353]) rfl ?_
  refine hx_scj 1 rfl rfl (by omega) hN ?_
  refine hx_ok (a := 268) (b := 1) (as := [.ref 353, .int (xs (i + 1))]) (S' := []) rfl rfl (fun _ _ => rfl) (by decide) (zargI_ok rfl (zrecv_of (ci := 10) (by decide) h_353)) rfl (run_W (by decide) (by repeat' first | exact cln_n | apply cln_i | exact cln_c r353_ok cln_n | apply cln_c r353_ok | apply cln_c fl_ok) h2) ?_
  refine hx_go 2 (pc' := 2192) (L' := [.ref 1000000, .ref 0, .ref 353, .ref 363, .int (jI (i : Int)), .int (jI (J2 353 0)), .int (jI v)]) (S' := [.ref 353]) rfl ?_
  refine hx_ok (a := 175) (b := 0) (as := [.ref 353]) (S' := []) rfl rfl (fun _ _ => rfl) (by decide) (zargI_ok rfl (zrecv_of (ci := 10) (by decide) h_353)) rfl (run_of thr_run) ?_
  refine hx_go 1 (pc' := 2197) (L' := [.ref 1000000, .ref 0, .ref 353, .ref 363, .int (jI (i : Int)), .int (jI (J2 353 0)), .int (jI v)]) (S' := [.int (jI (J2 353 0)), .int (jI (J2 353 0))]) rfl ?_
  refine hx_ic rfl ?_
  refine hx_go 1 (pc' := 2204) (L' := [.ref 1000000, .ref 0, .ref 353, .ref 363, .int (jI (i : Int)), .int (jI (J2 353 0)), .int (jI v)]) (S' := [.int (jI (J2 353 0))]) rfl ?_
  by_cases h0 : J2 353 0 = 0
  · refine hx_n1' rfl (by rw [h0]; rfl) ?_
    refine hx_go 2 (pc' := 2209) (L' := [.ref 1000000, .ref 0, .ref 353, .ref 363, .int (jI (i : Int)), .int (jI (J2 353 0)), .int (jI v)]) (S' := [.int (Int32.ofInt 0), .ref 363]) rfl ?_
    refine hx_ll rfl ?_
    rw [hv h0]
    refine hx_go 2 (pc' := 2213) (L' := [.ref 1000000, .ref 0, .ref 353, .ref 363, .int (jI (i : Int)), .int (jI (J2 353 0)), .int (jI v)]) (S' := [.long (jI v).toInt64, .long (jI v).toInt64]) rfl ?_
    refine hx_lc rfl rfl ?_
    refine hx_go 1 (pc' := 3265) (L' := [.ref 1000000, .ref 0, .ref 353, .ref 363, .int (jI (i : Int)), .int (jI (J2 353 0)), .int (jI v)]) (S' := []) rfl ?_
    exact h9
  · refine hx_n0 rfl (by rw [ne_eq, jI_eq0 (by omega) (by omega)]; exact h0) ?_
    refine hx_go 1 (pc' := 3265) (L' := [.ref 1000000, .ref 0, .ref 353, .ref 363, .int (jI (i : Int)), .int (jI (J2 353 0)), .int (jI v)]) (S' := []) rfl ?_
    exact h9
/-- setpoint -/
theorem cs_41 (hi : i + 6 ≤ N) (hN : N ≤ 3072) (g : GC J J) (t : GT k J) (k0 : 0 ≤ k) (k1 : k ≤ 21500) (nx : ∀ J' lg' Y5 Y6, GC J' J' → GT (k + 42) J' → lw N xs 3265 [.ref 1000000, .ref 0, .ref 353, .ref 363, .int (jI (i : Int)), Y5, Y6] [] J' lg' B) : lw N xs 2222 [.ref 1000000, .ref 0, .ref 353, .ref 363, .int (jI (i : Int)), X5, X6] [] J lg (B + 6) := by
  have hop : Op (lg, N, xs) k [0] 140 297 [.ref 0, .int (jI (xs (i + 1)).toInt)] [.ref 353, .int (jI (xs (i + 1)).toInt)] := op_setpoint (by omega) (jI_lo _) (jI_hi _)
  obtain ⟨o, J1, v, J2, h1, h2, gc, gt, mt⟩ := hop J g t
  simp only [jI_of] at h1 h2
  obtain ⟨lg1, u1, hh, hu, hv⟩ := hp_369 (J1 := J1) (z0 := xs (i + 1)) h1 mt
  have tb := mtc_b mt (by decide)
  obtain ⟨J9, lg9, u9, h9, b9⟩ := nx J2 lg1 (.int (jI (J2 353 0))) (.int (jI v)) gc gt
  refine ⟨J9, lg9, u1 + (0 + (0 + u9)), ?_, by omega⟩
  refine hx_go 5 (pc' := 2228) (L' := [.ref 1000000, .ref 0, .ref 353, .ref 363, .int (jI (i : Int)), X5, X6]) (S' := [.int (jI (i : Int) + Int32.ofInt 1), .ref 1000000, .ref 0]) rfl ?_
  refine hx_scj 1 rfl rfl (by omega) hN ?_
  refine hx_go 1 (pc' := 2230) (L' := [.ref 1000000, .ref 0, .ref 353, .ref 363, .int (jI (i : Int)), X5, X6]) (S' := [.ref 363, .int (xs (i + 1)), .ref 0]) rfl ?_
  refine hx_ok (a := 369) (b := 3) (as := [.ref 0, .int (xs (i + 1)), .ref 363]) (S' := []) rfl rfl (fun _ _ => rfl) (by decide) rfl rfl hh ?_
  refine hx_go 6 (pc' := 2241) (L' := [.ref 1000000, .ref 0, .ref 353, .ref 363, .int (jI (i : Int)), .int (jI (J2 353 0)), X6]) (S' := [.int (jI (i : Int) + Int32.ofInt 1), .ref 1000000, .ref 353]) rfl ?_
  refine hx_scj 1 rfl rfl (by omega) hN ?_
  refine hx_ok (a := 297) (b := 1) (as := [.ref 353, .int (xs (i + 1))]) (S' := []) rfl rfl (fun _ _ => rfl) (by decide) (zargI_ok rfl (zrecv_of (ci := 10) (by decide) h_353)) rfl (run_W (by decide) (by repeat' first | exact cln_n | apply cln_i | exact cln_c r353_ok cln_n | apply cln_c r353_ok | apply cln_c fl_ok) h2) ?_
  refine hx_go 2 (pc' := 2248) (L' := [.ref 1000000, .ref 0, .ref 353, .ref 363, .int (jI (i : Int)), .int (jI (J2 353 0)), .int (jI v)]) (S' := [.ref 353]) rfl ?_
  refine hx_ok (a := 175) (b := 0) (as := [.ref 353]) (S' := []) rfl rfl (fun _ _ => rfl) (by decide) (zargI_ok rfl (zrecv_of (ci := 10) (by decide) h_353)) rfl (run_of thr_run) ?_
  refine hx_go 1 (pc' := 2253) (L' := [.ref 1000000, .ref 0, .ref 353, .ref 363, .int (jI (i : Int)), .int (jI (J2 353 0)), .int (jI v)]) (S' := [.int (jI (J2 353 0)), .int (jI (J2 353 0))]) rfl ?_
  refine hx_ic rfl ?_
  refine hx_go 1 (pc' := 2260) (L' := [.ref 1000000, .ref 0, .ref 353, .ref 363, .int (jI (i : Int)), .int (jI (J2 353 0)), .int (jI v)]) (S' := [.int (jI (J2 353 0))]) rfl ?_
  by_cases h0 : J2 353 0 = 0
  · refine hx_n1' rfl (by rw [h0]; rfl) ?_
    refine hx_go 2 (pc' := 2265) (L' := [.ref 1000000, .ref 0, .ref 353, .ref 363, .int (jI (i : Int)), .int (jI (J2 353 0)), .int (jI v)]) (S' := [.int (Int32.ofInt 0), .ref 363]) rfl ?_
    refine hx_ll rfl ?_
    rw [hv h0]
    refine hx_go 2 (pc' := 2269) (L' := [.ref 1000000, .ref 0, .ref 353, .ref 363, .int (jI (i : Int)), .int (jI (J2 353 0)), .int (jI v)]) (S' := [.long (jI v).toInt64, .long (jI v).toInt64]) rfl ?_
    refine hx_lc rfl rfl ?_
    refine hx_go 1 (pc' := 3265) (L' := [.ref 1000000, .ref 0, .ref 353, .ref 363, .int (jI (i : Int)), .int (jI (J2 353 0)), .int (jI v)]) (S' := []) rfl ?_
    exact h9
  · refine hx_n0 rfl (by rw [ne_eq, jI_eq0 (by omega) (by omega)]; exact h0) ?_
    refine hx_go 1 (pc' := 3265) (L' := [.ref 1000000, .ref 0, .ref 353, .ref 363, .int (jI (i : Int)), .int (jI (J2 353 0)), .int (jI v)]) (S' := []) rfl ?_
    exact h9
/-- temperature -/
theorem cs_42 (hi : i + 6 ≤ N) (hN : N ≤ 3072) (g : GC J J) (t : GT k J) (k0 : 0 ≤ k) (k1 : k ≤ 21500) (nx : ∀ J' lg' Y5 Y6, GC J' J' → GT (k + 42) J' → lw N xs 3265 [.ref 1000000, .ref 0, .ref 353, .ref 363, .int (jI (i : Int)), Y5, Y6] [] J' lg' B) : lw N xs 2278 [.ref 1000000, .ref 0, .ref 353, .ref 363, .int (jI (i : Int)), X5, X6] [] J lg (B + 6) := by
  have hop : Op (lg, N, xs) k [0] 141 298 [.ref 0, .int (jI (xs (i + 1)).toInt)] [.ref 353, .int (jI (xs (i + 1)).toInt)] := op_temperature (by omega) (jI_lo _) (jI_hi _)
  obtain ⟨o, J1, v, J2, h1, h2, gc, gt, mt⟩ := hop J g t
  simp only [jI_of] at h1 h2
  obtain ⟨lg1, u1, hh, hu, hv⟩ := hp_370 (J1 := J1) (z0 := xs (i + 1)) h1 mt
  have tb := mtc_b mt (by decide)
  obtain ⟨J9, lg9, u9, h9, b9⟩ := nx J2 lg1 (.int (jI (J2 353 0))) (.int (jI v)) gc gt
  refine ⟨J9, lg9, u1 + (0 + (0 + u9)), ?_, by omega⟩
  refine hx_go 5 (pc' := 2284) (L' := [.ref 1000000, .ref 0, .ref 353, .ref 363, .int (jI (i : Int)), X5, X6]) (S' := [.int (jI (i : Int) + Int32.ofInt 1), .ref 1000000, .ref 0]) rfl ?_
  refine hx_scj 1 rfl rfl (by omega) hN ?_
  refine hx_go 1 (pc' := 2286) (L' := [.ref 1000000, .ref 0, .ref 353, .ref 363, .int (jI (i : Int)), X5, X6]) (S' := [.ref 363, .int (xs (i + 1)), .ref 0]) rfl ?_
  refine hx_ok (a := 370) (b := 3) (as := [.ref 0, .int (xs (i + 1)), .ref 363]) (S' := []) rfl rfl (fun _ _ => rfl) (by decide) rfl rfl hh ?_
  refine hx_go 6 (pc' := 2297) (L' := [.ref 1000000, .ref 0, .ref 353, .ref 363, .int (jI (i : Int)), .int (jI (J2 353 0)), X6]) (S' := [.int (jI (i : Int) + Int32.ofInt 1), .ref 1000000, .ref 353]) rfl ?_
  refine hx_scj 1 rfl rfl (by omega) hN ?_
  refine hx_ok (a := 298) (b := 1) (as := [.ref 353, .int (xs (i + 1))]) (S' := []) rfl rfl (fun _ _ => rfl) (by decide) (zargI_ok rfl (zrecv_of (ci := 10) (by decide) h_353)) rfl (run_W (by decide) (by repeat' first | exact cln_n | apply cln_i | exact cln_c r353_ok cln_n | apply cln_c r353_ok | apply cln_c fl_ok) h2) ?_
  refine hx_go 2 (pc' := 2304) (L' := [.ref 1000000, .ref 0, .ref 353, .ref 363, .int (jI (i : Int)), .int (jI (J2 353 0)), .int (jI v)]) (S' := [.ref 353]) rfl ?_
  refine hx_ok (a := 175) (b := 0) (as := [.ref 353]) (S' := []) rfl rfl (fun _ _ => rfl) (by decide) (zargI_ok rfl (zrecv_of (ci := 10) (by decide) h_353)) rfl (run_of thr_run) ?_
  refine hx_go 1 (pc' := 2309) (L' := [.ref 1000000, .ref 0, .ref 353, .ref 363, .int (jI (i : Int)), .int (jI (J2 353 0)), .int (jI v)]) (S' := [.int (jI (J2 353 0)), .int (jI (J2 353 0))]) rfl ?_
  refine hx_ic rfl ?_
  refine hx_go 1 (pc' := 2316) (L' := [.ref 1000000, .ref 0, .ref 353, .ref 363, .int (jI (i : Int)), .int (jI (J2 353 0)), .int (jI v)]) (S' := [.int (jI (J2 353 0))]) rfl ?_
  by_cases h0 : J2 353 0 = 0
  · refine hx_n1' rfl (by rw [h0]; rfl) ?_
    refine hx_go 2 (pc' := 2321) (L' := [.ref 1000000, .ref 0, .ref 353, .ref 363, .int (jI (i : Int)), .int (jI (J2 353 0)), .int (jI v)]) (S' := [.int (Int32.ofInt 0), .ref 363]) rfl ?_
    refine hx_ll rfl ?_
    rw [hv h0]
    refine hx_go 2 (pc' := 2325) (L' := [.ref 1000000, .ref 0, .ref 353, .ref 363, .int (jI (i : Int)), .int (jI (J2 353 0)), .int (jI v)]) (S' := [.long (jI v).toInt64, .long (jI v).toInt64]) rfl ?_
    refine hx_lc rfl rfl ?_
    refine hx_go 1 (pc' := 3265) (L' := [.ref 1000000, .ref 0, .ref 353, .ref 363, .int (jI (i : Int)), .int (jI (J2 353 0)), .int (jI v)]) (S' := []) rfl ?_
    exact h9
  · refine hx_n0 rfl (by rw [ne_eq, jI_eq0 (by omega) (by omega)]; exact h0) ?_
    refine hx_go 1 (pc' := 3265) (L' := [.ref 1000000, .ref 0, .ref 353, .ref 363, .int (jI (i : Int)), .int (jI (J2 353 0)), .int (jI v)]) (S' := []) rfl ?_
    exact h9
/-- temperatureAfter -/
theorem cs_43 (hi : i + 6 ≤ N) (hN : N ≤ 3072) (g : GC J J) (t : GT k J) (k0 : 0 ≤ k) (k1 : k ≤ 21500) (nx : ∀ J' lg' Y5 Y6, GC J' J' → GT (k + 42) J' → lw N xs 3265 [.ref 1000000, .ref 0, .ref 353, .ref 363, .int (jI (i : Int)), Y5, Y6] [] J' lg' B) : lw N xs 2334 [.ref 1000000, .ref 0, .ref 353, .ref 363, .int (jI (i : Int)), X5, X6] [] J lg (B + 6) := by
  have hop : Op (lg, N, xs) k [0, 1] 142 299 [.ref 0, .int (jI (xs (i + 1)).toInt), .int (jI (xs (i + 2)).toInt)] [.ref 353, .int (jI (xs (i + 1)).toInt), .int (jI (xs (i + 2)).toInt)] := op_temperatureAfter (by omega) (by omega) (jI_lo _) (jI_hi _) (jI_lo _) (jI_hi _)
  obtain ⟨o, J1, v, J2, h1, h2, gc, gt, mt⟩ := hop J g t
  simp only [jI_of] at h1 h2
  obtain ⟨lg1, u1, hh, hu, hv⟩ := hp_371 (J1 := J1) (z0 := xs (i + 1)) (z1 := xs (i + 2)) h1 mt
  have tb := mtc_b mt (by decide)
  obtain ⟨J9, lg9, u9, h9, b9⟩ := nx J2 lg1 (.int (jI (J2 353 0))) (.int (jI v)) gc gt
  refine ⟨J9, lg9, u1 + (0 + (0 + u9)), ?_, by omega⟩
  refine hx_go 5 (pc' := 2340) (L' := [.ref 1000000, .ref 0, .ref 353, .ref 363, .int (jI (i : Int)), X5, X6]) (S' := [.int (jI (i : Int) + Int32.ofInt 1), .ref 1000000, .ref 0]) rfl ?_
  refine hx_scj 1 rfl rfl (by omega) hN ?_
  refine hx_go 4 (pc' := 2346) (L' := [.ref 1000000, .ref 0, .ref 353, .ref 363, .int (jI (i : Int)), X5, X6]) (S' := [.int (jI (i : Int) + Int32.ofInt 2), .ref 1000000, .int (xs (i + 1)), .ref 0]) rfl ?_
  refine hx_scj 2 rfl rfl (by omega) hN ?_
  refine hx_go 1 (pc' := 2348) (L' := [.ref 1000000, .ref 0, .ref 353, .ref 363, .int (jI (i : Int)), X5, X6]) (S' := [.ref 363, .int (xs (i + 2)), .int (xs (i + 1)), .ref 0]) rfl ?_
  refine hx_ok (a := 371) (b := 4) (as := [.ref 0, .int (xs (i + 1)), .int (xs (i + 2)), .ref 363]) (S' := []) rfl rfl (fun _ _ => rfl) (by decide) rfl rfl hh ?_
  refine hx_go 6 (pc' := 2359) (L' := [.ref 1000000, .ref 0, .ref 353, .ref 363, .int (jI (i : Int)), .int (jI (J2 353 0)), X6]) (S' := [.int (jI (i : Int) + Int32.ofInt 1), .ref 1000000, .ref 353]) rfl ?_
  refine hx_scj 1 rfl rfl (by omega) hN ?_
  refine hx_go 4 (pc' := 2365) (L' := [.ref 1000000, .ref 0, .ref 353, .ref 363, .int (jI (i : Int)), .int (jI (J2 353 0)), X6]) (S' := [.int (jI (i : Int) + Int32.ofInt 2), .ref 1000000, .int (xs (i + 1)), .ref 353]) rfl ?_
  refine hx_scj 2 rfl rfl (by omega) hN ?_
  refine hx_ok (a := 299) (b := 2) (as := [.ref 353, .int (xs (i + 1)), .int (xs (i + 2))]) (S' := []) rfl rfl (fun _ _ => rfl) (by decide) (zargI_ok rfl (zrecv_of (ci := 10) (by decide) h_353)) rfl (run_W (by decide) (by repeat' first | exact cln_n | apply cln_i | exact cln_c r353_ok cln_n | apply cln_c r353_ok | apply cln_c fl_ok) h2) ?_
  refine hx_go 2 (pc' := 2372) (L' := [.ref 1000000, .ref 0, .ref 353, .ref 363, .int (jI (i : Int)), .int (jI (J2 353 0)), .int (jI v)]) (S' := [.ref 353]) rfl ?_
  refine hx_ok (a := 175) (b := 0) (as := [.ref 353]) (S' := []) rfl rfl (fun _ _ => rfl) (by decide) (zargI_ok rfl (zrecv_of (ci := 10) (by decide) h_353)) rfl (run_of thr_run) ?_
  refine hx_go 1 (pc' := 2377) (L' := [.ref 1000000, .ref 0, .ref 353, .ref 363, .int (jI (i : Int)), .int (jI (J2 353 0)), .int (jI v)]) (S' := [.int (jI (J2 353 0)), .int (jI (J2 353 0))]) rfl ?_
  refine hx_ic rfl ?_
  refine hx_go 1 (pc' := 2384) (L' := [.ref 1000000, .ref 0, .ref 353, .ref 363, .int (jI (i : Int)), .int (jI (J2 353 0)), .int (jI v)]) (S' := [.int (jI (J2 353 0))]) rfl ?_
  by_cases h0 : J2 353 0 = 0
  · refine hx_n1' rfl (by rw [h0]; rfl) ?_
    refine hx_go 2 (pc' := 2389) (L' := [.ref 1000000, .ref 0, .ref 353, .ref 363, .int (jI (i : Int)), .int (jI (J2 353 0)), .int (jI v)]) (S' := [.int (Int32.ofInt 0), .ref 363]) rfl ?_
    refine hx_ll rfl ?_
    rw [hv h0]
    refine hx_go 2 (pc' := 2393) (L' := [.ref 1000000, .ref 0, .ref 353, .ref 363, .int (jI (i : Int)), .int (jI (J2 353 0)), .int (jI v)]) (S' := [.long (jI v).toInt64, .long (jI v).toInt64]) rfl ?_
    refine hx_lc rfl rfl ?_
    refine hx_go 1 (pc' := 3265) (L' := [.ref 1000000, .ref 0, .ref 353, .ref 363, .int (jI (i : Int)), .int (jI (J2 353 0)), .int (jI v)]) (S' := []) rfl ?_
    exact h9
  · refine hx_n0 rfl (by rw [ne_eq, jI_eq0 (by omega) (by omega)]; exact h0) ?_
    refine hx_go 1 (pc' := 3265) (L' := [.ref 1000000, .ref 0, .ref 353, .ref 363, .int (jI (i : Int)), .int (jI (J2 353 0)), .int (jI v)]) (S' := []) rfl ?_
    exact h9
/-- openings -/
theorem cs_44 (hi : i + 6 ≤ N) (hN : N ≤ 3072) (g : GC J J) (t : GT k J) (k0 : 0 ≤ k) (k1 : k ≤ 21500) (nx : ∀ J' lg' Y5 Y6, GC J' J' → GT (k + 42) J' → lw N xs 3265 [.ref 1000000, .ref 0, .ref 353, .ref 363, .int (jI (i : Int)), Y5, Y6] [] J' lg' B) : lw N xs 2402 [.ref 1000000, .ref 0, .ref 353, .ref 363, .int (jI (i : Int)), X5, X6] [] J lg (B + 6) := by
  have hop : Op (lg, N, xs) k [0] 143 300 [.ref 0, .int (jI (xs (i + 1)).toInt)] [.ref 353, .int (jI (xs (i + 1)).toInt)] := op_openings (by omega) (jI_lo _) (jI_hi _)
  obtain ⟨o, J1, v, J2, h1, h2, gc, gt, mt⟩ := hop J g t
  simp only [jI_of] at h1 h2
  obtain ⟨lg1, u1, hh, hu, hv⟩ := hp_372 (J1 := J1) (z0 := xs (i + 1)) h1 mt
  have tb := mtc_b mt (by decide)
  obtain ⟨J9, lg9, u9, h9, b9⟩ := nx J2 lg1 (.int (jI (J2 353 0))) (.int (jI v)) gc gt
  refine ⟨J9, lg9, u1 + (0 + (0 + u9)), ?_, by omega⟩
  refine hx_go 5 (pc' := 2408) (L' := [.ref 1000000, .ref 0, .ref 353, .ref 363, .int (jI (i : Int)), X5, X6]) (S' := [.int (jI (i : Int) + Int32.ofInt 1), .ref 1000000, .ref 0]) rfl ?_
  refine hx_scj 1 rfl rfl (by omega) hN ?_
  refine hx_go 1 (pc' := 2410) (L' := [.ref 1000000, .ref 0, .ref 353, .ref 363, .int (jI (i : Int)), X5, X6]) (S' := [.ref 363, .int (xs (i + 1)), .ref 0]) rfl ?_
  refine hx_ok (a := 372) (b := 3) (as := [.ref 0, .int (xs (i + 1)), .ref 363]) (S' := []) rfl rfl (fun _ _ => rfl) (by decide) rfl rfl hh ?_
  refine hx_go 6 (pc' := 2421) (L' := [.ref 1000000, .ref 0, .ref 353, .ref 363, .int (jI (i : Int)), .int (jI (J2 353 0)), X6]) (S' := [.int (jI (i : Int) + Int32.ofInt 1), .ref 1000000, .ref 353]) rfl ?_
  refine hx_scj 1 rfl rfl (by omega) hN ?_
  refine hx_ok (a := 300) (b := 1) (as := [.ref 353, .int (xs (i + 1))]) (S' := []) rfl rfl (fun _ _ => rfl) (by decide) (zargI_ok rfl (zrecv_of (ci := 10) (by decide) h_353)) rfl (run_W (by decide) (by repeat' first | exact cln_n | apply cln_i | exact cln_c r353_ok cln_n | apply cln_c r353_ok | apply cln_c fl_ok) h2) ?_
  refine hx_go 2 (pc' := 2428) (L' := [.ref 1000000, .ref 0, .ref 353, .ref 363, .int (jI (i : Int)), .int (jI (J2 353 0)), .int (jI v)]) (S' := [.ref 353]) rfl ?_
  refine hx_ok (a := 175) (b := 0) (as := [.ref 353]) (S' := []) rfl rfl (fun _ _ => rfl) (by decide) (zargI_ok rfl (zrecv_of (ci := 10) (by decide) h_353)) rfl (run_of thr_run) ?_
  refine hx_go 1 (pc' := 2433) (L' := [.ref 1000000, .ref 0, .ref 353, .ref 363, .int (jI (i : Int)), .int (jI (J2 353 0)), .int (jI v)]) (S' := [.int (jI (J2 353 0)), .int (jI (J2 353 0))]) rfl ?_
  refine hx_ic rfl ?_
  refine hx_go 1 (pc' := 2440) (L' := [.ref 1000000, .ref 0, .ref 353, .ref 363, .int (jI (i : Int)), .int (jI (J2 353 0)), .int (jI v)]) (S' := [.int (jI (J2 353 0))]) rfl ?_
  by_cases h0 : J2 353 0 = 0
  · refine hx_n1' rfl (by rw [h0]; rfl) ?_
    refine hx_go 2 (pc' := 2445) (L' := [.ref 1000000, .ref 0, .ref 353, .ref 363, .int (jI (i : Int)), .int (jI (J2 353 0)), .int (jI v)]) (S' := [.int (Int32.ofInt 0), .ref 363]) rfl ?_
    refine hx_ll rfl ?_
    rw [hv h0]
    refine hx_go 2 (pc' := 2449) (L' := [.ref 1000000, .ref 0, .ref 353, .ref 363, .int (jI (i : Int)), .int (jI (J2 353 0)), .int (jI v)]) (S' := [.long (jI v).toInt64, .long (jI v).toInt64]) rfl ?_
    refine hx_lc rfl rfl ?_
    refine hx_go 1 (pc' := 3265) (L' := [.ref 1000000, .ref 0, .ref 353, .ref 363, .int (jI (i : Int)), .int (jI (J2 353 0)), .int (jI v)]) (S' := []) rfl ?_
    exact h9
  · refine hx_n0 rfl (by rw [ne_eq, jI_eq0 (by omega) (by omega)]; exact h0) ?_
    refine hx_go 1 (pc' := 3265) (L' := [.ref 1000000, .ref 0, .ref 353, .ref 363, .int (jI (i : Int)), .int (jI (J2 353 0)), .int (jI v)]) (S' := []) rfl ?_
    exact h9
/-- palletAt -/
theorem cs_45 (hi : i + 6 ≤ N) (hN : N ≤ 3072) (g : GC J J) (t : GT k J) (k0 : 0 ≤ k) (k1 : k ≤ 21500) (nx : ∀ J' lg' Y5 Y6, GC J' J' → GT (k + 42) J' → lw N xs 3265 [.ref 1000000, .ref 0, .ref 353, .ref 363, .int (jI (i : Int)), Y5, Y6] [] J' lg' B) : lw N xs 2458 [.ref 1000000, .ref 0, .ref 353, .ref 363, .int (jI (i : Int)), X5, X6] [] J lg (B + 6) := by
  have hop : Op (lg, N, xs) k [0, 1] 144 301 [.ref 0, .int (jI (xs (i + 1)).toInt), .int (jI (xs (i + 2)).toInt), .int (jI (xs (i + 3)).toInt)] [.ref 353, .int (jI (xs (i + 1)).toInt), .int (jI (xs (i + 2)).toInt), .int (jI (xs (i + 3)).toInt)] := op_palletAt (by omega) (jI_lo _) (jI_hi _) (jI_lo _) (jI_hi _) (jI_lo _) (jI_hi _)
  obtain ⟨o, J1, v, J2, h1, h2, gc, gt, mt⟩ := hop J g t
  simp only [jI_of] at h1 h2
  obtain ⟨lg1, u1, hh, hu, hv⟩ := hp_373 (J1 := J1) (z0 := xs (i + 1)) (z1 := xs (i + 2)) (z2 := xs (i + 3)) h1 mt
  have tb := mtc_b mt (by decide)
  obtain ⟨J9, lg9, u9, h9, b9⟩ := nx J2 lg1 (.int (jI (J2 353 0))) (.int (jI v)) gc gt
  refine ⟨J9, lg9, u1 + (0 + (0 + u9)), ?_, by omega⟩
  refine hx_go 5 (pc' := 2464) (L' := [.ref 1000000, .ref 0, .ref 353, .ref 363, .int (jI (i : Int)), X5, X6]) (S' := [.int (jI (i : Int) + Int32.ofInt 1), .ref 1000000, .ref 0]) rfl ?_
  refine hx_scj 1 rfl rfl (by omega) hN ?_
  refine hx_go 4 (pc' := 2470) (L' := [.ref 1000000, .ref 0, .ref 353, .ref 363, .int (jI (i : Int)), X5, X6]) (S' := [.int (jI (i : Int) + Int32.ofInt 2), .ref 1000000, .int (xs (i + 1)), .ref 0]) rfl ?_
  refine hx_scj 2 rfl rfl (by omega) hN ?_
  refine hx_go 4 (pc' := 2476) (L' := [.ref 1000000, .ref 0, .ref 353, .ref 363, .int (jI (i : Int)), X5, X6]) (S' := [.int (jI (i : Int) + Int32.ofInt 3), .ref 1000000, .int (xs (i + 2)), .int (xs (i + 1)), .ref 0]) rfl ?_
  refine hx_scj 3 rfl rfl (by omega) hN ?_
  refine hx_go 1 (pc' := 2478) (L' := [.ref 1000000, .ref 0, .ref 353, .ref 363, .int (jI (i : Int)), X5, X6]) (S' := [.ref 363, .int (xs (i + 3)), .int (xs (i + 2)), .int (xs (i + 1)), .ref 0]) rfl ?_
  refine hx_ok (a := 373) (b := 5) (as := [.ref 0, .int (xs (i + 1)), .int (xs (i + 2)), .int (xs (i + 3)), .ref 363]) (S' := []) rfl rfl (fun _ _ => rfl) (by decide) rfl rfl hh ?_
  refine hx_go 6 (pc' := 2489) (L' := [.ref 1000000, .ref 0, .ref 353, .ref 363, .int (jI (i : Int)), .int (jI (J2 353 0)), X6]) (S' := [.int (jI (i : Int) + Int32.ofInt 1), .ref 1000000, .ref 353]) rfl ?_
  refine hx_scj 1 rfl rfl (by omega) hN ?_
  refine hx_go 4 (pc' := 2495) (L' := [.ref 1000000, .ref 0, .ref 353, .ref 363, .int (jI (i : Int)), .int (jI (J2 353 0)), X6]) (S' := [.int (jI (i : Int) + Int32.ofInt 2), .ref 1000000, .int (xs (i + 1)), .ref 353]) rfl ?_
  refine hx_scj 2 rfl rfl (by omega) hN ?_
  refine hx_go 4 (pc' := 2501) (L' := [.ref 1000000, .ref 0, .ref 353, .ref 363, .int (jI (i : Int)), .int (jI (J2 353 0)), X6]) (S' := [.int (jI (i : Int) + Int32.ofInt 3), .ref 1000000, .int (xs (i + 2)), .int (xs (i + 1)), .ref 353]) rfl ?_
  refine hx_scj 3 rfl rfl (by omega) hN ?_
  refine hx_ok (a := 301) (b := 3) (as := [.ref 353, .int (xs (i + 1)), .int (xs (i + 2)), .int (xs (i + 3))]) (S' := []) rfl rfl (fun _ _ => rfl) (by decide) (zargI_ok rfl (zrecv_of (ci := 10) (by decide) h_353)) rfl (run_W (by decide) (by repeat' first | exact cln_n | apply cln_i | exact cln_c r353_ok cln_n | apply cln_c r353_ok | apply cln_c fl_ok) h2) ?_
  refine hx_go 2 (pc' := 2508) (L' := [.ref 1000000, .ref 0, .ref 353, .ref 363, .int (jI (i : Int)), .int (jI (J2 353 0)), .int (jI v)]) (S' := [.ref 353]) rfl ?_
  refine hx_ok (a := 175) (b := 0) (as := [.ref 353]) (S' := []) rfl rfl (fun _ _ => rfl) (by decide) (zargI_ok rfl (zrecv_of (ci := 10) (by decide) h_353)) rfl (run_of thr_run) ?_
  refine hx_go 1 (pc' := 2513) (L' := [.ref 1000000, .ref 0, .ref 353, .ref 363, .int (jI (i : Int)), .int (jI (J2 353 0)), .int (jI v)]) (S' := [.int (jI (J2 353 0)), .int (jI (J2 353 0))]) rfl ?_
  refine hx_ic rfl ?_
  refine hx_go 1 (pc' := 2520) (L' := [.ref 1000000, .ref 0, .ref 353, .ref 363, .int (jI (i : Int)), .int (jI (J2 353 0)), .int (jI v)]) (S' := [.int (jI (J2 353 0))]) rfl ?_
  by_cases h0 : J2 353 0 = 0
  · refine hx_n1' rfl (by rw [h0]; rfl) ?_
    refine hx_go 2 (pc' := 2525) (L' := [.ref 1000000, .ref 0, .ref 353, .ref 363, .int (jI (i : Int)), .int (jI (J2 353 0)), .int (jI v)]) (S' := [.int (Int32.ofInt 0), .ref 363]) rfl ?_
    refine hx_ll rfl ?_
    rw [hv h0]
    refine hx_go 2 (pc' := 2529) (L' := [.ref 1000000, .ref 0, .ref 353, .ref 363, .int (jI (i : Int)), .int (jI (J2 353 0)), .int (jI v)]) (S' := [.long (jI v).toInt64, .long (jI v).toInt64]) rfl ?_
    refine hx_lc rfl rfl ?_
    refine hx_go 1 (pc' := 3265) (L' := [.ref 1000000, .ref 0, .ref 353, .ref 363, .int (jI (i : Int)), .int (jI (J2 353 0)), .int (jI v)]) (S' := []) rfl ?_
    exact h9
  · refine hx_n0 rfl (by rw [ne_eq, jI_eq0 (by omega) (by omega)]; exact h0) ?_
    refine hx_go 1 (pc' := 3265) (L' := [.ref 1000000, .ref 0, .ref 353, .ref 363, .int (jI (i : Int)), .int (jI (J2 353 0)), .int (jI v)]) (S' := []) rfl ?_
    exact h9
/-- storeProblem -/
theorem cs_46 (hi : i + 6 ≤ N) (hN : N ≤ 3072) (g : GC J J) (t : GT k J) (k0 : 0 ≤ k) (k1 : k ≤ 21500) (nx : ∀ J' lg' Y5 Y6, GC J' J' → GT (k + 42) J' → lw N xs 3265 [.ref 1000000, .ref 0, .ref 353, .ref 363, .int (jI (i : Int)), Y5, Y6] [] J' lg' B) : lw N xs 2538 [.ref 1000000, .ref 0, .ref 353, .ref 363, .int (jI (i : Int)), X5, X6] [] J lg (B + 6) := by
  have hop : Op (lg, N, xs) k [0, 1] 145 245 [.ref 0, .int (jI (xs (i + 1)).toInt), .int (jI (xs (i + 2)).toInt), .int (jI (xs (i + 3)).toInt), .int (jI (xs (i + 4)).toInt)] [.ref 353, .int (jI (xs (i + 1)).toInt), .int (jI (xs (i + 2)).toInt), .int (jI (xs (i + 3)).toInt), .int (jI (xs (i + 4)).toInt)] := op_storeProblem (by omega) (jI_lo _) (jI_hi _) (jI_lo _) (jI_hi _) (jI_lo _) (jI_hi _) (jI_lo _) (jI_hi _)
  obtain ⟨o, J1, v, J2, h1, h2, gc, gt, mt⟩ := hop J g t
  simp only [jI_of] at h1 h2
  obtain ⟨lg1, u1, hh, hu, hv⟩ := hp_374 (J1 := J1) (z0 := xs (i + 1)) (z1 := xs (i + 2)) (z2 := xs (i + 3)) (z3 := xs (i + 4)) h1 mt
  have tb := mtc_b mt (by decide)
  obtain ⟨J9, lg9, u9, h9, b9⟩ := nx J2 lg1 (.int (jI (J2 353 0))) (.int (jI v)) gc gt
  refine ⟨J9, lg9, u1 + (0 + (0 + u9)), ?_, by omega⟩
  refine hx_go 5 (pc' := 2544) (L' := [.ref 1000000, .ref 0, .ref 353, .ref 363, .int (jI (i : Int)), X5, X6]) (S' := [.int (jI (i : Int) + Int32.ofInt 1), .ref 1000000, .ref 0]) rfl ?_
  refine hx_scj 1 rfl rfl (by omega) hN ?_
  refine hx_go 4 (pc' := 2550) (L' := [.ref 1000000, .ref 0, .ref 353, .ref 363, .int (jI (i : Int)), X5, X6]) (S' := [.int (jI (i : Int) + Int32.ofInt 2), .ref 1000000, .int (xs (i + 1)), .ref 0]) rfl ?_
  refine hx_scj 2 rfl rfl (by omega) hN ?_
  refine hx_go 4 (pc' := 2556) (L' := [.ref 1000000, .ref 0, .ref 353, .ref 363, .int (jI (i : Int)), X5, X6]) (S' := [.int (jI (i : Int) + Int32.ofInt 3), .ref 1000000, .int (xs (i + 2)), .int (xs (i + 1)), .ref 0]) rfl ?_
  refine hx_scj 3 rfl rfl (by omega) hN ?_
  refine hx_go 4 (pc' := 2562) (L' := [.ref 1000000, .ref 0, .ref 353, .ref 363, .int (jI (i : Int)), X5, X6]) (S' := [.int (jI (i : Int) + Int32.ofInt 4), .ref 1000000, .int (xs (i + 3)), .int (xs (i + 2)), .int (xs (i + 1)), .ref 0]) rfl ?_
  refine hx_scj 4 rfl rfl (by omega) hN ?_
  refine hx_go 1 (pc' := 2564) (L' := [.ref 1000000, .ref 0, .ref 353, .ref 363, .int (jI (i : Int)), X5, X6]) (S' := [.ref 363, .int (xs (i + 4)), .int (xs (i + 3)), .int (xs (i + 2)), .int (xs (i + 1)), .ref 0]) rfl ?_
  refine hx_ok (a := 374) (b := 6) (as := [.ref 0, .int (xs (i + 1)), .int (xs (i + 2)), .int (xs (i + 3)), .int (xs (i + 4)), .ref 363]) (S' := []) rfl rfl (fun _ _ => rfl) (by decide) rfl rfl hh ?_
  refine hx_go 6 (pc' := 2575) (L' := [.ref 1000000, .ref 0, .ref 353, .ref 363, .int (jI (i : Int)), .int (jI (J2 353 0)), X6]) (S' := [.int (jI (i : Int) + Int32.ofInt 1), .ref 1000000, .ref 353]) rfl ?_
  refine hx_scj 1 rfl rfl (by omega) hN ?_
  refine hx_go 4 (pc' := 2581) (L' := [.ref 1000000, .ref 0, .ref 353, .ref 363, .int (jI (i : Int)), .int (jI (J2 353 0)), X6]) (S' := [.int (jI (i : Int) + Int32.ofInt 2), .ref 1000000, .int (xs (i + 1)), .ref 353]) rfl ?_
  refine hx_scj 2 rfl rfl (by omega) hN ?_
  refine hx_go 4 (pc' := 2587) (L' := [.ref 1000000, .ref 0, .ref 353, .ref 363, .int (jI (i : Int)), .int (jI (J2 353 0)), X6]) (S' := [.int (jI (i : Int) + Int32.ofInt 3), .ref 1000000, .int (xs (i + 2)), .int (xs (i + 1)), .ref 353]) rfl ?_
  refine hx_scj 3 rfl rfl (by omega) hN ?_
  refine hx_go 4 (pc' := 2593) (L' := [.ref 1000000, .ref 0, .ref 353, .ref 363, .int (jI (i : Int)), .int (jI (J2 353 0)), X6]) (S' := [.int (jI (i : Int) + Int32.ofInt 4), .ref 1000000, .int (xs (i + 3)), .int (xs (i + 2)), .int (xs (i + 1)), .ref 353]) rfl ?_
  refine hx_scj 4 rfl rfl (by omega) hN ?_
  refine hx_ok (a := 245) (b := 4) (as := [.ref 353, .int (xs (i + 1)), .int (xs (i + 2)), .int (xs (i + 3)), .int (xs (i + 4))]) (S' := []) rfl rfl (fun _ _ => rfl) (by decide) (zargI_ok rfl (zrecv_of (ci := 10) (by decide) h_353)) rfl (run_W (by decide) (by repeat' first | exact cln_n | apply cln_i | exact cln_c r353_ok cln_n | apply cln_c r353_ok | apply cln_c fl_ok) h2) ?_
  refine hx_go 2 (pc' := 2600) (L' := [.ref 1000000, .ref 0, .ref 353, .ref 363, .int (jI (i : Int)), .int (jI (J2 353 0)), .int (jI v)]) (S' := [.ref 353]) rfl ?_
  refine hx_ok (a := 175) (b := 0) (as := [.ref 353]) (S' := []) rfl rfl (fun _ _ => rfl) (by decide) (zargI_ok rfl (zrecv_of (ci := 10) (by decide) h_353)) rfl (run_of thr_run) ?_
  refine hx_go 1 (pc' := 2605) (L' := [.ref 1000000, .ref 0, .ref 353, .ref 363, .int (jI (i : Int)), .int (jI (J2 353 0)), .int (jI v)]) (S' := [.int (jI (J2 353 0)), .int (jI (J2 353 0))]) rfl ?_
  refine hx_ic rfl ?_
  refine hx_go 1 (pc' := 2612) (L' := [.ref 1000000, .ref 0, .ref 353, .ref 363, .int (jI (i : Int)), .int (jI (J2 353 0)), .int (jI v)]) (S' := [.int (jI (J2 353 0))]) rfl ?_
  by_cases h0 : J2 353 0 = 0
  · refine hx_n1' rfl (by rw [h0]; rfl) ?_
    refine hx_go 2 (pc' := 2617) (L' := [.ref 1000000, .ref 0, .ref 353, .ref 363, .int (jI (i : Int)), .int (jI (J2 353 0)), .int (jI v)]) (S' := [.int (Int32.ofInt 0), .ref 363]) rfl ?_
    refine hx_ll rfl ?_
    rw [hv h0]
    refine hx_go 2 (pc' := 2621) (L' := [.ref 1000000, .ref 0, .ref 353, .ref 363, .int (jI (i : Int)), .int (jI (J2 353 0)), .int (jI v)]) (S' := [.long (jI v).toInt64, .long (jI v).toInt64]) rfl ?_
    refine hx_lc rfl rfl ?_
    refine hx_go 1 (pc' := 3265) (L' := [.ref 1000000, .ref 0, .ref 353, .ref 363, .int (jI (i : Int)), .int (jI (J2 353 0)), .int (jI v)]) (S' := []) rfl ?_
    exact h9
  · refine hx_n0 rfl (by rw [ne_eq, jI_eq0 (by omega) (by omega)]; exact h0) ?_
    refine hx_go 1 (pc' := 3265) (L' := [.ref 1000000, .ref 0, .ref 353, .ref 363, .int (jI (i : Int)), .int (jI (J2 353 0)), .int (jI v)]) (S' := []) rfl ?_
    exact h9
/-- wayLength -/
theorem cs_47 (hi : i + 6 ≤ N) (hN : N ≤ 3072) (g : GC J J) (t : GT k J) (k0 : 0 ≤ k) (k1 : k ≤ 21500) (nx : ∀ J' lg' Y5 Y6, GC J' J' → GT (k + 42) J' → lw N xs 3265 [.ref 1000000, .ref 0, .ref 353, .ref 363, .int (jI (i : Int)), Y5, Y6] [] J' lg' B) : lw N xs 2630 [.ref 1000000, .ref 0, .ref 353, .ref 363, .int (jI (i : Int)), X5, X6] [] J lg (B + 6) := by
  have hop : Op (lg, N, xs) k [0, 1, 3] 146 302 [.ref 0, .int (jI (xs (i + 1)).toInt), .int (jI (xs (i + 2)).toInt), .int (jI (xs (i + 3)).toInt), .float 0, .float 0] [.ref 353, .int (jI (xs (i + 1)).toInt), .int (jI (xs (i + 2)).toInt), .int (jI (xs (i + 3)).toInt), .float 0] := op_wayLength (by omega) (jI_lo _) (jI_hi _) (jI_lo _) (jI_hi _) (jI_lo _) (jI_hi _)
  obtain ⟨o, J1, v, J2, h1, h2, gc, gt, mt⟩ := hop J g t
  simp only [jI_of] at h1 h2
  obtain ⟨lg1, u1, hh, hu, hv⟩ := hp_375 (J1 := J1) (z0 := xs (i + 1)) (z1 := xs (i + 2)) (z2 := xs (i + 3)) h1 mt
  have tb := mtc_b mt (by decide)
  obtain ⟨J9, lg9, u9, h9, b9⟩ := nx J2 lg1 (.int (jI (J2 353 0))) (.int (jI v)) gc gt
  refine ⟨J9, lg9, u1 + (0 + (0 + u9)), ?_, by omega⟩
  refine hx_go 5 (pc' := 2636) (L' := [.ref 1000000, .ref 0, .ref 353, .ref 363, .int (jI (i : Int)), X5, X6]) (S' := [.int (jI (i : Int) + Int32.ofInt 1), .ref 1000000, .ref 0]) rfl ?_
  refine hx_scj 1 rfl rfl (by omega) hN ?_
  refine hx_go 4 (pc' := 2642) (L' := [.ref 1000000, .ref 0, .ref 353, .ref 363, .int (jI (i : Int)), X5, X6]) (S' := [.int (jI (i : Int) + Int32.ofInt 2), .ref 1000000, .int (xs (i + 1)), .ref 0]) rfl ?_
  refine hx_scj 2 rfl rfl (by omega) hN ?_
  refine hx_go 4 (pc' := 2648) (L' := [.ref 1000000, .ref 0, .ref 353, .ref 363, .int (jI (i : Int)), X5, X6]) (S' := [.int (jI (i : Int) + Int32.ofInt 3), .ref 1000000, .int (xs (i + 2)), .int (xs (i + 1)), .ref 0]) rfl ?_
  refine hx_scj 3 rfl rfl (by omega) hN ?_
  refine hx_go 1 (pc' := 2650) (L' := [.ref 1000000, .ref 0, .ref 353, .ref 363, .int (jI (i : Int)), X5, X6]) (S' := [.ref 363, .int (xs (i + 3)), .int (xs (i + 2)), .int (xs (i + 1)), .ref 0]) rfl ?_
  refine hx_ok (a := 375) (b := 5) (as := [.ref 0, .int (xs (i + 1)), .int (xs (i + 2)), .int (xs (i + 3)), .ref 363]) (S' := []) rfl rfl (fun _ _ => rfl) (by decide) rfl rfl hh ?_
  refine hx_go 6 (pc' := 2661) (L' := [.ref 1000000, .ref 0, .ref 353, .ref 363, .int (jI (i : Int)), .int (jI (J2 353 0)), X6]) (S' := [.int (jI (i : Int) + Int32.ofInt 1), .ref 1000000, .ref 353]) rfl ?_
  refine hx_scj 1 rfl rfl (by omega) hN ?_
  refine hx_go 4 (pc' := 2667) (L' := [.ref 1000000, .ref 0, .ref 353, .ref 363, .int (jI (i : Int)), .int (jI (J2 353 0)), X6]) (S' := [.int (jI (i : Int) + Int32.ofInt 2), .ref 1000000, .int (xs (i + 1)), .ref 353]) rfl ?_
  refine hx_scj 2 rfl rfl (by omega) hN ?_
  refine hx_go 4 (pc' := 2673) (L' := [.ref 1000000, .ref 0, .ref 353, .ref 363, .int (jI (i : Int)), .int (jI (J2 353 0)), X6]) (S' := [.int (jI (i : Int) + Int32.ofInt 3), .ref 1000000, .int (xs (i + 2)), .int (xs (i + 1)), .ref 353]) rfl ?_
  refine hx_scj 3 rfl rfl (by omega) hN ?_
  refine hx_ok (a := 302) (b := 3) (as := [.ref 353, .int (xs (i + 1)), .int (xs (i + 2)), .int (xs (i + 3))]) (S' := []) rfl rfl (fun _ _ => rfl) (by decide) (zargI_ok rfl (zrecv_of (ci := 10) (by decide) h_353)) rfl (run_W (by decide) (by repeat' first | exact cln_n | apply cln_i | exact cln_c r353_ok cln_n | apply cln_c r353_ok | apply cln_c fl_ok) h2) ?_
  refine hx_go 2 (pc' := 2680) (L' := [.ref 1000000, .ref 0, .ref 353, .ref 363, .int (jI (i : Int)), .int (jI (J2 353 0)), .int (jI v)]) (S' := [.ref 353]) rfl ?_
  refine hx_ok (a := 175) (b := 0) (as := [.ref 353]) (S' := []) rfl rfl (fun _ _ => rfl) (by decide) (zargI_ok rfl (zrecv_of (ci := 10) (by decide) h_353)) rfl (run_of thr_run) ?_
  refine hx_go 1 (pc' := 2685) (L' := [.ref 1000000, .ref 0, .ref 353, .ref 363, .int (jI (i : Int)), .int (jI (J2 353 0)), .int (jI v)]) (S' := [.int (jI (J2 353 0)), .int (jI (J2 353 0))]) rfl ?_
  refine hx_ic rfl ?_
  refine hx_go 1 (pc' := 2692) (L' := [.ref 1000000, .ref 0, .ref 353, .ref 363, .int (jI (i : Int)), .int (jI (J2 353 0)), .int (jI v)]) (S' := [.int (jI (J2 353 0))]) rfl ?_
  by_cases h0 : J2 353 0 = 0
  · refine hx_n1' rfl (by rw [h0]; rfl) ?_
    refine hx_go 2 (pc' := 2697) (L' := [.ref 1000000, .ref 0, .ref 353, .ref 363, .int (jI (i : Int)), .int (jI (J2 353 0)), .int (jI v)]) (S' := [.int (Int32.ofInt 0), .ref 363]) rfl ?_
    refine hx_ll rfl ?_
    rw [hv h0]
    refine hx_go 2 (pc' := 2701) (L' := [.ref 1000000, .ref 0, .ref 353, .ref 363, .int (jI (i : Int)), .int (jI (J2 353 0)), .int (jI v)]) (S' := [.long (jI v).toInt64, .long (jI v).toInt64]) rfl ?_
    refine hx_lc rfl rfl ?_
    refine hx_go 1 (pc' := 3265) (L' := [.ref 1000000, .ref 0, .ref 353, .ref 363, .int (jI (i : Int)), .int (jI (J2 353 0)), .int (jI v)]) (S' := []) rfl ?_
    exact h9
  · refine hx_n0 rfl (by rw [ne_eq, jI_eq0 (by omega) (by omega)]; exact h0) ?_
    refine hx_go 1 (pc' := 3265) (L' := [.ref 1000000, .ref 0, .ref 353, .ref 363, .int (jI (i : Int)), .int (jI (J2 353 0)), .int (jI v)]) (S' := []) rfl ?_
    exact h9
/-- reachableCells -/
theorem cs_48 (hi : i + 6 ≤ N) (hN : N ≤ 3072) (g : GC J J) (t : GT k J) (k0 : 0 ≤ k) (k1 : k ≤ 21500) (nx : ∀ J' lg' Y5 Y6, GC J' J' → GT (k + 42) J' → lw N xs 3265 [.ref 1000000, .ref 0, .ref 353, .ref 363, .int (jI (i : Int)), Y5, Y6] [] J' lg' B) : lw N xs 2710 [.ref 1000000, .ref 0, .ref 353, .ref 363, .int (jI (i : Int)), X5, X6] [] J lg (B + 6) := by
  have hop : Op (lg, N, xs) k [0] 147 303 [.ref 0, .int (jI (xs (i + 1)).toInt), .float 0, .float 0] [.ref 353, .int (jI (xs (i + 1)).toInt), .float 0, .float 0] := op_reachableCells (by omega) (jI_lo _) (jI_hi _)
  obtain ⟨o, J1, v, J2, h1, h2, gc, gt, mt⟩ := hop J g t
  simp only [jI_of] at h1 h2
  obtain ⟨lg1, u1, hh, hu, hv⟩ := hp_376 (J1 := J1) (z0 := xs (i + 1)) h1 mt
  have tb := mtc_b mt (by decide)
  obtain ⟨J9, lg9, u9, h9, b9⟩ := nx J2 lg1 (.int (jI (J2 353 0))) (.int (jI v)) gc gt
  refine ⟨J9, lg9, u1 + (0 + (0 + u9)), ?_, by omega⟩
  refine hx_go 5 (pc' := 2716) (L' := [.ref 1000000, .ref 0, .ref 353, .ref 363, .int (jI (i : Int)), X5, X6]) (S' := [.int (jI (i : Int) + Int32.ofInt 1), .ref 1000000, .ref 0]) rfl ?_
  refine hx_scj 1 rfl rfl (by omega) hN ?_
  refine hx_go 1 (pc' := 2718) (L' := [.ref 1000000, .ref 0, .ref 353, .ref 363, .int (jI (i : Int)), X5, X6]) (S' := [.ref 363, .int (xs (i + 1)), .ref 0]) rfl ?_
  refine hx_ok (a := 376) (b := 3) (as := [.ref 0, .int (xs (i + 1)), .ref 363]) (S' := []) rfl rfl (fun _ _ => rfl) (by decide) rfl rfl hh ?_
  refine hx_go 6 (pc' := 2729) (L' := [.ref 1000000, .ref 0, .ref 353, .ref 363, .int (jI (i : Int)), .int (jI (J2 353 0)), X6]) (S' := [.int (jI (i : Int) + Int32.ofInt 1), .ref 1000000, .ref 353]) rfl ?_
  refine hx_scj 1 rfl rfl (by omega) hN ?_
  refine hx_ok (a := 303) (b := 1) (as := [.ref 353, .int (xs (i + 1))]) (S' := []) rfl rfl (fun _ _ => rfl) (by decide) (zargI_ok rfl (zrecv_of (ci := 10) (by decide) h_353)) rfl (run_W (by decide) (by repeat' first | exact cln_n | apply cln_i | exact cln_c r353_ok cln_n | apply cln_c r353_ok | apply cln_c fl_ok) h2) ?_
  refine hx_go 2 (pc' := 2736) (L' := [.ref 1000000, .ref 0, .ref 353, .ref 363, .int (jI (i : Int)), .int (jI (J2 353 0)), .int (jI v)]) (S' := [.ref 353]) rfl ?_
  refine hx_ok (a := 175) (b := 0) (as := [.ref 353]) (S' := []) rfl rfl (fun _ _ => rfl) (by decide) (zargI_ok rfl (zrecv_of (ci := 10) (by decide) h_353)) rfl (run_of thr_run) ?_
  refine hx_go 1 (pc' := 2741) (L' := [.ref 1000000, .ref 0, .ref 353, .ref 363, .int (jI (i : Int)), .int (jI (J2 353 0)), .int (jI v)]) (S' := [.int (jI (J2 353 0)), .int (jI (J2 353 0))]) rfl ?_
  refine hx_ic rfl ?_
  refine hx_go 1 (pc' := 2748) (L' := [.ref 1000000, .ref 0, .ref 353, .ref 363, .int (jI (i : Int)), .int (jI (J2 353 0)), .int (jI v)]) (S' := [.int (jI (J2 353 0))]) rfl ?_
  by_cases h0 : J2 353 0 = 0
  · refine hx_n1' rfl (by rw [h0]; rfl) ?_
    refine hx_go 2 (pc' := 2753) (L' := [.ref 1000000, .ref 0, .ref 353, .ref 363, .int (jI (i : Int)), .int (jI (J2 353 0)), .int (jI v)]) (S' := [.int (Int32.ofInt 0), .ref 363]) rfl ?_
    refine hx_ll rfl ?_
    rw [hv h0]
    refine hx_go 2 (pc' := 2757) (L' := [.ref 1000000, .ref 0, .ref 353, .ref 363, .int (jI (i : Int)), .int (jI (J2 353 0)), .int (jI v)]) (S' := [.long (jI v).toInt64, .long (jI v).toInt64]) rfl ?_
    refine hx_lc rfl rfl ?_
    refine hx_go 1 (pc' := 3265) (L' := [.ref 1000000, .ref 0, .ref 353, .ref 363, .int (jI (i : Int)), .int (jI (J2 353 0)), .int (jI v)]) (S' := []) rfl ?_
    exact h9
  · refine hx_n0 rfl (by rw [ne_eq, jI_eq0 (by omega) (by omega)]; exact h0) ?_
    refine hx_go 1 (pc' := 3265) (L' := [.ref 1000000, .ref 0, .ref 353, .ref 363, .int (jI (i : Int)), .int (jI (J2 353 0)), .int (jI v)]) (S' := []) rfl ?_
    exact h9
/-- safeCells -/
theorem cs_49 (hi : i + 6 ≤ N) (hN : N ≤ 3072) (g : GC J J) (t : GT k J) (k0 : 0 ≤ k) (k1 : k ≤ 21500) (nx : ∀ J' lg' Y5 Y6, GC J' J' → GT (k + 42) J' → lw N xs 3265 [.ref 1000000, .ref 0, .ref 353, .ref 363, .int (jI (i : Int)), Y5, Y6] [] J' lg' B) : lw N xs 2766 [.ref 1000000, .ref 0, .ref 353, .ref 363, .int (jI (i : Int)), X5, X6] [] J lg (B + 6) := by
  have hop : Op (lg, N, xs) k [0] 148 305 [.ref 0, .int (jI (xs (i + 1)).toInt), .int (jI (xs (i + 2)).toInt)] [.ref 353, .int (jI (xs (i + 1)).toInt), .int (jI (xs (i + 2)).toInt)] := op_safeCells (by omega) (jI_lo _) (jI_hi _) (jI_lo _) (jI_hi _)
  obtain ⟨o, J1, v, J2, h1, h2, gc, gt, mt⟩ := hop J g t
  simp only [jI_of] at h1 h2
  obtain ⟨lg1, u1, hh, hu, hv⟩ := hp_377 (J1 := J1) (z0 := xs (i + 1)) (z1 := xs (i + 2)) h1 mt
  have tb := mtc_b mt (by decide)
  obtain ⟨J9, lg9, u9, h9, b9⟩ := nx J2 lg1 (.int (jI (J2 353 0))) (.int (jI v)) gc gt
  refine ⟨J9, lg9, u1 + (0 + (0 + u9)), ?_, by omega⟩
  refine hx_go 5 (pc' := 2772) (L' := [.ref 1000000, .ref 0, .ref 353, .ref 363, .int (jI (i : Int)), X5, X6]) (S' := [.int (jI (i : Int) + Int32.ofInt 1), .ref 1000000, .ref 0]) rfl ?_
  refine hx_scj 1 rfl rfl (by omega) hN ?_
  refine hx_go 4 (pc' := 2778) (L' := [.ref 1000000, .ref 0, .ref 353, .ref 363, .int (jI (i : Int)), X5, X6]) (S' := [.int (jI (i : Int) + Int32.ofInt 2), .ref 1000000, .int (xs (i + 1)), .ref 0]) rfl ?_
  refine hx_scj 2 rfl rfl (by omega) hN ?_
  refine hx_go 1 (pc' := 2780) (L' := [.ref 1000000, .ref 0, .ref 353, .ref 363, .int (jI (i : Int)), X5, X6]) (S' := [.ref 363, .int (xs (i + 2)), .int (xs (i + 1)), .ref 0]) rfl ?_
  refine hx_ok (a := 377) (b := 4) (as := [.ref 0, .int (xs (i + 1)), .int (xs (i + 2)), .ref 363]) (S' := []) rfl rfl (fun _ _ => rfl) (by decide) rfl rfl hh ?_
  refine hx_go 6 (pc' := 2791) (L' := [.ref 1000000, .ref 0, .ref 353, .ref 363, .int (jI (i : Int)), .int (jI (J2 353 0)), X6]) (S' := [.int (jI (i : Int) + Int32.ofInt 1), .ref 1000000, .ref 353]) rfl ?_
  refine hx_scj 1 rfl rfl (by omega) hN ?_
  refine hx_go 4 (pc' := 2797) (L' := [.ref 1000000, .ref 0, .ref 353, .ref 363, .int (jI (i : Int)), .int (jI (J2 353 0)), X6]) (S' := [.int (jI (i : Int) + Int32.ofInt 2), .ref 1000000, .int (xs (i + 1)), .ref 353]) rfl ?_
  refine hx_scj 2 rfl rfl (by omega) hN ?_
  refine hx_ok (a := 305) (b := 2) (as := [.ref 353, .int (xs (i + 1)), .int (xs (i + 2))]) (S' := []) rfl rfl (fun _ _ => rfl) (by decide) (zargI_ok rfl (zrecv_of (ci := 10) (by decide) h_353)) rfl (run_W (by decide) (by repeat' first | exact cln_n | apply cln_i | exact cln_c r353_ok cln_n | apply cln_c r353_ok | apply cln_c fl_ok) h2) ?_
  refine hx_go 2 (pc' := 2804) (L' := [.ref 1000000, .ref 0, .ref 353, .ref 363, .int (jI (i : Int)), .int (jI (J2 353 0)), .int (jI v)]) (S' := [.ref 353]) rfl ?_
  refine hx_ok (a := 175) (b := 0) (as := [.ref 353]) (S' := []) rfl rfl (fun _ _ => rfl) (by decide) (zargI_ok rfl (zrecv_of (ci := 10) (by decide) h_353)) rfl (run_of thr_run) ?_
  refine hx_go 1 (pc' := 2809) (L' := [.ref 1000000, .ref 0, .ref 353, .ref 363, .int (jI (i : Int)), .int (jI (J2 353 0)), .int (jI v)]) (S' := [.int (jI (J2 353 0)), .int (jI (J2 353 0))]) rfl ?_
  refine hx_ic rfl ?_
  refine hx_go 1 (pc' := 2816) (L' := [.ref 1000000, .ref 0, .ref 353, .ref 363, .int (jI (i : Int)), .int (jI (J2 353 0)), .int (jI v)]) (S' := [.int (jI (J2 353 0))]) rfl ?_
  by_cases h0 : J2 353 0 = 0
  · refine hx_n1' rfl (by rw [h0]; rfl) ?_
    refine hx_go 2 (pc' := 2821) (L' := [.ref 1000000, .ref 0, .ref 353, .ref 363, .int (jI (i : Int)), .int (jI (J2 353 0)), .int (jI v)]) (S' := [.int (Int32.ofInt 0), .ref 363]) rfl ?_
    refine hx_ll rfl ?_
    rw [hv h0]
    refine hx_go 2 (pc' := 2825) (L' := [.ref 1000000, .ref 0, .ref 353, .ref 363, .int (jI (i : Int)), .int (jI (J2 353 0)), .int (jI v)]) (S' := [.long (jI v).toInt64, .long (jI v).toInt64]) rfl ?_
    refine hx_lc rfl rfl ?_
    refine hx_go 1 (pc' := 3265) (L' := [.ref 1000000, .ref 0, .ref 353, .ref 363, .int (jI (i : Int)), .int (jI (J2 353 0)), .int (jI v)]) (S' := []) rfl ?_
    exact h9
  · refine hx_n0 rfl (by rw [ne_eq, jI_eq0 (by omega) (by omega)]; exact h0) ?_
    refine hx_go 1 (pc' := 3265) (L' := [.ref 1000000, .ref 0, .ref 353, .ref 363, .int (jI (i : Int)), .int (jI (J2 353 0)), .int (jI v)]) (S' := []) rfl ?_
    exact h9
/-- obstacles -/
theorem cs_50 (hi : i + 6 ≤ N) (hN : N ≤ 3072) (g : GC J J) (t : GT k J) (k0 : 0 ≤ k) (k1 : k ≤ 21500) (nx : ∀ J' lg' Y5 Y6, GC J' J' → GT (k + 42) J' → lw N xs 3265 [.ref 1000000, .ref 0, .ref 353, .ref 363, .int (jI (i : Int)), Y5, Y6] [] J' lg' B) : lw N xs 2834 [.ref 1000000, .ref 0, .ref 353, .ref 363, .int (jI (i : Int)), X5, X6] [] J lg (B + 6) := by
  have hop : Op (lg, N, xs) k [0, 2, 3] 149 306 [.ref 0, .int (jI (xs (i + 1)).toInt), .float 0, .float 0, .float 0] [.ref 353, .int (jI (xs (i + 1)).toInt), .float 0, .float 0] := op_obstacles (by omega) (jI_lo _) (jI_hi _)
  obtain ⟨o, J1, v, J2, h1, h2, gc, gt, mt⟩ := hop J g t
  simp only [jI_of] at h1 h2
  obtain ⟨lg1, u1, hh, hu, hv⟩ := hp_378 (J1 := J1) (z0 := xs (i + 1)) h1 mt
  have tb := mtc_b mt (by decide)
  obtain ⟨J9, lg9, u9, h9, b9⟩ := nx J2 lg1 (.int (jI (J2 353 0))) (.int (jI v)) gc gt
  refine ⟨J9, lg9, u1 + (0 + (0 + u9)), ?_, by omega⟩
  refine hx_go 5 (pc' := 2840) (L' := [.ref 1000000, .ref 0, .ref 353, .ref 363, .int (jI (i : Int)), X5, X6]) (S' := [.int (jI (i : Int) + Int32.ofInt 1), .ref 1000000, .ref 0]) rfl ?_
  refine hx_scj 1 rfl rfl (by omega) hN ?_
  refine hx_go 1 (pc' := 2842) (L' := [.ref 1000000, .ref 0, .ref 353, .ref 363, .int (jI (i : Int)), X5, X6]) (S' := [.ref 363, .int (xs (i + 1)), .ref 0]) rfl ?_
  refine hx_ok (a := 378) (b := 3) (as := [.ref 0, .int (xs (i + 1)), .ref 363]) (S' := []) rfl rfl (fun _ _ => rfl) (by decide) rfl rfl hh ?_
  refine hx_go 6 (pc' := 2853) (L' := [.ref 1000000, .ref 0, .ref 353, .ref 363, .int (jI (i : Int)), .int (jI (J2 353 0)), X6]) (S' := [.int (jI (i : Int) + Int32.ofInt 1), .ref 1000000, .ref 353]) rfl ?_
  refine hx_scj 1 rfl rfl (by omega) hN ?_
  refine hx_ok (a := 306) (b := 1) (as := [.ref 353, .int (xs (i + 1))]) (S' := []) rfl rfl (fun _ _ => rfl) (by decide) (zargI_ok rfl (zrecv_of (ci := 10) (by decide) h_353)) rfl (run_W (by decide) (by repeat' first | exact cln_n | apply cln_i | exact cln_c r353_ok cln_n | apply cln_c r353_ok | apply cln_c fl_ok) h2) ?_
  refine hx_go 2 (pc' := 2860) (L' := [.ref 1000000, .ref 0, .ref 353, .ref 363, .int (jI (i : Int)), .int (jI (J2 353 0)), .int (jI v)]) (S' := [.ref 353]) rfl ?_
  refine hx_ok (a := 175) (b := 0) (as := [.ref 353]) (S' := []) rfl rfl (fun _ _ => rfl) (by decide) (zargI_ok rfl (zrecv_of (ci := 10) (by decide) h_353)) rfl (run_of thr_run) ?_
  refine hx_go 1 (pc' := 2865) (L' := [.ref 1000000, .ref 0, .ref 353, .ref 363, .int (jI (i : Int)), .int (jI (J2 353 0)), .int (jI v)]) (S' := [.int (jI (J2 353 0)), .int (jI (J2 353 0))]) rfl ?_
  refine hx_ic rfl ?_
  refine hx_go 1 (pc' := 2872) (L' := [.ref 1000000, .ref 0, .ref 353, .ref 363, .int (jI (i : Int)), .int (jI (J2 353 0)), .int (jI v)]) (S' := [.int (jI (J2 353 0))]) rfl ?_
  by_cases h0 : J2 353 0 = 0
  · refine hx_n1' rfl (by rw [h0]; rfl) ?_
    refine hx_go 2 (pc' := 2877) (L' := [.ref 1000000, .ref 0, .ref 353, .ref 363, .int (jI (i : Int)), .int (jI (J2 353 0)), .int (jI v)]) (S' := [.int (Int32.ofInt 0), .ref 363]) rfl ?_
    refine hx_ll rfl ?_
    rw [hv h0]
    refine hx_go 2 (pc' := 2881) (L' := [.ref 1000000, .ref 0, .ref 353, .ref 363, .int (jI (i : Int)), .int (jI (J2 353 0)), .int (jI v)]) (S' := [.long (jI v).toInt64, .long (jI v).toInt64]) rfl ?_
    refine hx_lc rfl rfl ?_
    refine hx_go 1 (pc' := 3265) (L' := [.ref 1000000, .ref 0, .ref 353, .ref 363, .int (jI (i : Int)), .int (jI (J2 353 0)), .int (jI v)]) (S' := []) rfl ?_
    exact h9
  · refine hx_n0 rfl (by rw [ne_eq, jI_eq0 (by omega) (by omega)]; exact h0) ?_
    refine hx_go 1 (pc' := 3265) (L' := [.ref 1000000, .ref 0, .ref 353, .ref 363, .int (jI (i : Int)), .int (jI (J2 353 0)), .int (jI v)]) (S' := []) rfl ?_
    exact h9
/-- mostPairs -/
theorem cs_51 (hi : i + 6 ≤ N) (hN : N ≤ 3072) (g : GC J J) (t : GT k J) (k0 : 0 ≤ k) (k1 : k ≤ 21500) (nx : ∀ J' lg' Y5 Y6, GC J' J' → GT (k + 42) J' → lw N xs 3265 [.ref 1000000, .ref 0, .ref 353, .ref 363, .int (jI (i : Int)), Y5, Y6] [] J' lg' B) : lw N xs 2890 [.ref 1000000, .ref 0, .ref 353, .ref 363, .int (jI (i : Int)), X5, X6] [] J lg (B + 6) := by
  have hop : Op (lg, N, xs) k [0, 1] 150 312 [.ref 0, .int (jI (xs (i + 1)).toInt), .int (jI (xs (i + 2)).toInt), .int (jI (xs (i + 3)).toInt), .float 0, .float 0] [.ref 353, .int (jI (xs (i + 1)).toInt), .int (jI (xs (i + 2)).toInt), .int (jI (xs (i + 3)).toInt), .float 0, .float 0, .float 0, .float 0, .float 0, .float 0, .float 0, .float 0] := op_mostPairs (by omega) (jI_lo _) (jI_hi _) (jI_lo _) (jI_hi _) (jI_lo _) (jI_hi _)
  obtain ⟨o, J1, v, J2, h1, h2, gc, gt, mt⟩ := hop J g t
  simp only [jI_of] at h1 h2
  obtain ⟨lg1, u1, hh, hu, hv⟩ := hp_379 (J1 := J1) (z0 := xs (i + 1)) (z1 := xs (i + 2)) (z2 := xs (i + 3)) h1 mt
  have tb := mtc_b mt (by decide)
  obtain ⟨J9, lg9, u9, h9, b9⟩ := nx J2 lg1 (.int (jI (J2 353 0))) (.int (jI v)) gc gt
  refine ⟨J9, lg9, u1 + (0 + (0 + u9)), ?_, by omega⟩
  refine hx_go 5 (pc' := 2896) (L' := [.ref 1000000, .ref 0, .ref 353, .ref 363, .int (jI (i : Int)), X5, X6]) (S' := [.int (jI (i : Int) + Int32.ofInt 1), .ref 1000000, .ref 0]) rfl ?_
  refine hx_scj 1 rfl rfl (by omega) hN ?_
  refine hx_go 4 (pc' := 2902) (L' := [.ref 1000000, .ref 0, .ref 353, .ref 363, .int (jI (i : Int)), X5, X6]) (S' := [.int (jI (i : Int) + Int32.ofInt 2), .ref 1000000, .int (xs (i + 1)), .ref 0]) rfl ?_
  refine hx_scj 2 rfl rfl (by omega) hN ?_
  refine hx_go 4 (pc' := 2908) (L' := [.ref 1000000, .ref 0, .ref 353, .ref 363, .int (jI (i : Int)), X5, X6]) (S' := [.int (jI (i : Int) + Int32.ofInt 3), .ref 1000000, .int (xs (i + 2)), .int (xs (i + 1)), .ref 0]) rfl ?_
  refine hx_scj 3 rfl rfl (by omega) hN ?_
  refine hx_go 1 (pc' := 2910) (L' := [.ref 1000000, .ref 0, .ref 353, .ref 363, .int (jI (i : Int)), X5, X6]) (S' := [.ref 363, .int (xs (i + 3)), .int (xs (i + 2)), .int (xs (i + 1)), .ref 0]) rfl ?_
  refine hx_ok (a := 379) (b := 5) (as := [.ref 0, .int (xs (i + 1)), .int (xs (i + 2)), .int (xs (i + 3)), .ref 363]) (S' := []) rfl rfl (fun _ _ => rfl) (by decide) rfl rfl hh ?_
  refine hx_go 6 (pc' := 2921) (L' := [.ref 1000000, .ref 0, .ref 353, .ref 363, .int (jI (i : Int)), .int (jI (J2 353 0)), X6]) (S' := [.int (jI (i : Int) + Int32.ofInt 1), .ref 1000000, .ref 353]) rfl ?_
  refine hx_scj 1 rfl rfl (by omega) hN ?_
  refine hx_go 4 (pc' := 2927) (L' := [.ref 1000000, .ref 0, .ref 353, .ref 363, .int (jI (i : Int)), .int (jI (J2 353 0)), X6]) (S' := [.int (jI (i : Int) + Int32.ofInt 2), .ref 1000000, .int (xs (i + 1)), .ref 353]) rfl ?_
  refine hx_scj 2 rfl rfl (by omega) hN ?_
  refine hx_go 4 (pc' := 2933) (L' := [.ref 1000000, .ref 0, .ref 353, .ref 363, .int (jI (i : Int)), .int (jI (J2 353 0)), X6]) (S' := [.int (jI (i : Int) + Int32.ofInt 3), .ref 1000000, .int (xs (i + 2)), .int (xs (i + 1)), .ref 353]) rfl ?_
  refine hx_scj 3 rfl rfl (by omega) hN ?_
  refine hx_ok (a := 312) (b := 3) (as := [.ref 353, .int (xs (i + 1)), .int (xs (i + 2)), .int (xs (i + 3))]) (S' := []) rfl rfl (fun _ _ => rfl) (by decide) (zargI_ok rfl (zrecv_of (ci := 10) (by decide) h_353)) rfl (run_W (by decide) (by repeat' first | exact cln_n | apply cln_i | exact cln_c r353_ok cln_n | apply cln_c r353_ok | apply cln_c fl_ok) h2) ?_
  refine hx_go 2 (pc' := 2940) (L' := [.ref 1000000, .ref 0, .ref 353, .ref 363, .int (jI (i : Int)), .int (jI (J2 353 0)), .int (jI v)]) (S' := [.ref 353]) rfl ?_
  refine hx_ok (a := 175) (b := 0) (as := [.ref 353]) (S' := []) rfl rfl (fun _ _ => rfl) (by decide) (zargI_ok rfl (zrecv_of (ci := 10) (by decide) h_353)) rfl (run_of thr_run) ?_
  refine hx_go 1 (pc' := 2945) (L' := [.ref 1000000, .ref 0, .ref 353, .ref 363, .int (jI (i : Int)), .int (jI (J2 353 0)), .int (jI v)]) (S' := [.int (jI (J2 353 0)), .int (jI (J2 353 0))]) rfl ?_
  refine hx_ic rfl ?_
  refine hx_go 1 (pc' := 2952) (L' := [.ref 1000000, .ref 0, .ref 353, .ref 363, .int (jI (i : Int)), .int (jI (J2 353 0)), .int (jI v)]) (S' := [.int (jI (J2 353 0))]) rfl ?_
  by_cases h0 : J2 353 0 = 0
  · refine hx_n1' rfl (by rw [h0]; rfl) ?_
    refine hx_go 2 (pc' := 2957) (L' := [.ref 1000000, .ref 0, .ref 353, .ref 363, .int (jI (i : Int)), .int (jI (J2 353 0)), .int (jI v)]) (S' := [.int (Int32.ofInt 0), .ref 363]) rfl ?_
    refine hx_ll rfl ?_
    rw [hv h0]
    refine hx_go 2 (pc' := 2961) (L' := [.ref 1000000, .ref 0, .ref 353, .ref 363, .int (jI (i : Int)), .int (jI (J2 353 0)), .int (jI v)]) (S' := [.long (jI v).toInt64, .long (jI v).toInt64]) rfl ?_
    refine hx_lc rfl rfl ?_
    refine hx_go 1 (pc' := 3265) (L' := [.ref 1000000, .ref 0, .ref 353, .ref 363, .int (jI (i : Int)), .int (jI (J2 353 0)), .int (jI v)]) (S' := []) rfl ?_
    exact h9
  · refine hx_n0 rfl (by rw [ne_eq, jI_eq0 (by omega) (by omega)]; exact h0) ?_
    refine hx_go 1 (pc' := 3265) (L' := [.ref 1000000, .ref 0, .ref 353, .ref 363, .int (jI (i : Int)), .int (jI (J2 353 0)), .int (jI v)]) (S' := []) rfl ?_
    exact h9
/-- bestSetpoint -/
theorem cs_52 (hi : i + 6 ≤ N) (hN : N ≤ 3072) (g : GC J J) (t : GT k J) (k0 : 0 ≤ k) (k1 : k ≤ 21500) (nx : ∀ J' lg' Y5 Y6, GC J' J' → GT (k + 42) J' → lw N xs 3265 [.ref 1000000, .ref 0, .ref 353, .ref 363, .int (jI (i : Int)), Y5, Y6] [] J' lg' B) : lw N xs 2970 [.ref 1000000, .ref 0, .ref 353, .ref 363, .int (jI (i : Int)), X5, X6] [] J lg (B + 6) := by
  have hop : Op (lg, N, xs) k [0] 151 313 [.ref 0, .int (jI (xs (i + 1)).toInt), .float 0, .float 0, .float 0, .float 0] [.ref 353, .int (jI (xs (i + 1)).toInt), .float 0, .float 0, .float 0, .float 0, .float 0, .float 0] := op_bestSetpoint (by omega) (jI_lo _) (jI_hi _)
  obtain ⟨o, J1, v, J2, h1, h2, gc, gt, mt⟩ := hop J g t
  simp only [jI_of] at h1 h2
  obtain ⟨lg1, u1, hh, hu, hv⟩ := hp_380 (J1 := J1) (z0 := xs (i + 1)) h1 mt
  have tb := mtc_b mt (by decide)
  obtain ⟨J9, lg9, u9, h9, b9⟩ := nx J2 lg1 (.int (jI (J2 353 0))) (.int (jI v)) gc gt
  refine ⟨J9, lg9, u1 + (0 + (0 + u9)), ?_, by omega⟩
  refine hx_go 5 (pc' := 2976) (L' := [.ref 1000000, .ref 0, .ref 353, .ref 363, .int (jI (i : Int)), X5, X6]) (S' := [.int (jI (i : Int) + Int32.ofInt 1), .ref 1000000, .ref 0]) rfl ?_
  refine hx_scj 1 rfl rfl (by omega) hN ?_
  refine hx_go 1 (pc' := 2978) (L' := [.ref 1000000, .ref 0, .ref 353, .ref 363, .int (jI (i : Int)), X5, X6]) (S' := [.ref 363, .int (xs (i + 1)), .ref 0]) rfl ?_
  refine hx_ok (a := 380) (b := 3) (as := [.ref 0, .int (xs (i + 1)), .ref 363]) (S' := []) rfl rfl (fun _ _ => rfl) (by decide) rfl rfl hh ?_
  refine hx_go 6 (pc' := 2989) (L' := [.ref 1000000, .ref 0, .ref 353, .ref 363, .int (jI (i : Int)), .int (jI (J2 353 0)), X6]) (S' := [.int (jI (i : Int) + Int32.ofInt 1), .ref 1000000, .ref 353]) rfl ?_
  refine hx_scj 1 rfl rfl (by omega) hN ?_
  refine hx_ok (a := 313) (b := 1) (as := [.ref 353, .int (xs (i + 1))]) (S' := []) rfl rfl (fun _ _ => rfl) (by decide) (zargI_ok rfl (zrecv_of (ci := 10) (by decide) h_353)) rfl (run_W (by decide) (by repeat' first | exact cln_n | apply cln_i | exact cln_c r353_ok cln_n | apply cln_c r353_ok | apply cln_c fl_ok) h2) ?_
  refine hx_go 2 (pc' := 2996) (L' := [.ref 1000000, .ref 0, .ref 353, .ref 363, .int (jI (i : Int)), .int (jI (J2 353 0)), .int (jI v)]) (S' := [.ref 353]) rfl ?_
  refine hx_ok (a := 175) (b := 0) (as := [.ref 353]) (S' := []) rfl rfl (fun _ _ => rfl) (by decide) (zargI_ok rfl (zrecv_of (ci := 10) (by decide) h_353)) rfl (run_of thr_run) ?_
  refine hx_go 1 (pc' := 3001) (L' := [.ref 1000000, .ref 0, .ref 353, .ref 363, .int (jI (i : Int)), .int (jI (J2 353 0)), .int (jI v)]) (S' := [.int (jI (J2 353 0)), .int (jI (J2 353 0))]) rfl ?_
  refine hx_ic rfl ?_
  refine hx_go 1 (pc' := 3008) (L' := [.ref 1000000, .ref 0, .ref 353, .ref 363, .int (jI (i : Int)), .int (jI (J2 353 0)), .int (jI v)]) (S' := [.int (jI (J2 353 0))]) rfl ?_
  by_cases h0 : J2 353 0 = 0
  · refine hx_n1' rfl (by rw [h0]; rfl) ?_
    refine hx_go 2 (pc' := 3013) (L' := [.ref 1000000, .ref 0, .ref 353, .ref 363, .int (jI (i : Int)), .int (jI (J2 353 0)), .int (jI v)]) (S' := [.int (Int32.ofInt 0), .ref 363]) rfl ?_
    refine hx_ll rfl ?_
    rw [hv h0]
    refine hx_go 2 (pc' := 3017) (L' := [.ref 1000000, .ref 0, .ref 353, .ref 363, .int (jI (i : Int)), .int (jI (J2 353 0)), .int (jI v)]) (S' := [.long (jI v).toInt64, .long (jI v).toInt64]) rfl ?_
    refine hx_lc rfl rfl ?_
    refine hx_go 1 (pc' := 3265) (L' := [.ref 1000000, .ref 0, .ref 353, .ref 363, .int (jI (i : Int)), .int (jI (J2 353 0)), .int (jI v)]) (S' := []) rfl ?_
    exact h9
  · refine hx_n0 rfl (by rw [ne_eq, jI_eq0 (by omega) (by omega)]; exact h0) ?_
    refine hx_go 1 (pc' := 3265) (L' := [.ref 1000000, .ref 0, .ref 353, .ref 363, .int (jI (i : Int)), .int (jI (J2 353 0)), .int (jI v)]) (S' := []) rfl ?_
    exact h9
/-- availableFor -/
theorem cs_53 (hi : i + 6 ≤ N) (hN : N ≤ 3072) (g : GC J J) (t : GT k J) (k0 : 0 ≤ k) (k1 : k ≤ 21500) (nx : ∀ J' lg' Y5 Y6, GC J' J' → GT (k + 42) J' → lw N xs 3265 [.ref 1000000, .ref 0, .ref 353, .ref 363, .int (jI (i : Int)), Y5, Y6] [] J' lg' B) : lw N xs 3026 [.ref 1000000, .ref 0, .ref 353, .ref 363, .int (jI (i : Int)), X5, X6] [] J lg (B + 6) := by
  have hop : Op (lg, N, xs) k [0] 152 259 [.ref 0, .int (jI (xs (i + 1)).toInt)] [.ref 353, .int (jI (xs (i + 1)).toInt), .float 0] := op_availableFor (by omega) (jI_lo _) (jI_hi _)
  obtain ⟨o, J1, v, J2, h1, h2, gc, gt, mt⟩ := hop J g t
  simp only [jI_of] at h1 h2
  obtain ⟨lg1, u1, hh, hu, hv⟩ := hp_381 (J1 := J1) (z0 := xs (i + 1)) h1 mt
  have tb := mtc_b mt (by decide)
  obtain ⟨J9, lg9, u9, h9, b9⟩ := nx J2 lg1 (.int (jI (J2 353 0))) (.int (jI v)) gc gt
  refine ⟨J9, lg9, u1 + (0 + (0 + u9)), ?_, by omega⟩
  refine hx_go 5 (pc' := 3032) (L' := [.ref 1000000, .ref 0, .ref 353, .ref 363, .int (jI (i : Int)), X5, X6]) (S' := [.int (jI (i : Int) + Int32.ofInt 1), .ref 1000000, .ref 0]) rfl ?_
  refine hx_scj 1 rfl rfl (by omega) hN ?_
  refine hx_go 1 (pc' := 3034) (L' := [.ref 1000000, .ref 0, .ref 353, .ref 363, .int (jI (i : Int)), X5, X6]) (S' := [.ref 363, .int (xs (i + 1)), .ref 0]) rfl ?_
  refine hx_ok (a := 381) (b := 3) (as := [.ref 0, .int (xs (i + 1)), .ref 363]) (S' := []) rfl rfl (fun _ _ => rfl) (by decide) rfl rfl hh ?_
  refine hx_go 6 (pc' := 3045) (L' := [.ref 1000000, .ref 0, .ref 353, .ref 363, .int (jI (i : Int)), .int (jI (J2 353 0)), X6]) (S' := [.int (jI (i : Int) + Int32.ofInt 1), .ref 1000000, .ref 353]) rfl ?_
  refine hx_scj 1 rfl rfl (by omega) hN ?_
  refine hx_ok (a := 259) (b := 1) (as := [.ref 353, .int (xs (i + 1))]) (S' := []) rfl rfl (fun _ _ => rfl) (by decide) (zargI_ok rfl (zrecv_of (ci := 10) (by decide) h_353)) rfl (run_W (by decide) (by repeat' first | exact cln_n | apply cln_i | exact cln_c r353_ok cln_n | apply cln_c r353_ok | apply cln_c fl_ok) h2) ?_
  refine hx_go 2 (pc' := 3052) (L' := [.ref 1000000, .ref 0, .ref 353, .ref 363, .int (jI (i : Int)), .int (jI (J2 353 0)), .int (jI v)]) (S' := [.ref 353]) rfl ?_
  refine hx_ok (a := 175) (b := 0) (as := [.ref 353]) (S' := []) rfl rfl (fun _ _ => rfl) (by decide) (zargI_ok rfl (zrecv_of (ci := 10) (by decide) h_353)) rfl (run_of thr_run) ?_
  refine hx_go 1 (pc' := 3057) (L' := [.ref 1000000, .ref 0, .ref 353, .ref 363, .int (jI (i : Int)), .int (jI (J2 353 0)), .int (jI v)]) (S' := [.int (jI (J2 353 0)), .int (jI (J2 353 0))]) rfl ?_
  refine hx_ic rfl ?_
  refine hx_go 1 (pc' := 3064) (L' := [.ref 1000000, .ref 0, .ref 353, .ref 363, .int (jI (i : Int)), .int (jI (J2 353 0)), .int (jI v)]) (S' := [.int (jI (J2 353 0))]) rfl ?_
  by_cases h0 : J2 353 0 = 0
  · refine hx_n1' rfl (by rw [h0]; rfl) ?_
    refine hx_go 2 (pc' := 3069) (L' := [.ref 1000000, .ref 0, .ref 353, .ref 363, .int (jI (i : Int)), .int (jI (J2 353 0)), .int (jI v)]) (S' := [.int (Int32.ofInt 0), .ref 363]) rfl ?_
    refine hx_ll rfl ?_
    rw [hv h0]
    refine hx_go 2 (pc' := 3073) (L' := [.ref 1000000, .ref 0, .ref 353, .ref 363, .int (jI (i : Int)), .int (jI (J2 353 0)), .int (jI v)]) (S' := [.long (jI v).toInt64, .long (jI v).toInt64]) rfl ?_
    refine hx_lc rfl rfl ?_
    refine hx_go 1 (pc' := 3265) (L' := [.ref 1000000, .ref 0, .ref 353, .ref 363, .int (jI (i : Int)), .int (jI (J2 353 0)), .int (jI v)]) (S' := []) rfl ?_
    exact h9
  · refine hx_n0 rfl (by rw [ne_eq, jI_eq0 (by omega) (by omega)]; exact h0) ?_
    refine hx_go 1 (pc' := 3265) (L' := [.ref 1000000, .ref 0, .ref 353, .ref 363, .int (jI (i : Int)), .int (jI (J2 353 0)), .int (jI v)]) (S' := []) rfl ?_
    exact h9
/-- textLength -/
theorem cs_54 (hi : i + 6 ≤ N) (hN : N ≤ 3072) (g : GC J J) (t : GT k J) (k0 : 0 ≤ k) (k1 : k ≤ 21500) (nx : ∀ J' lg' Y5 Y6, GC J' J' → GT (k + 42) J' → lw N xs 3265 [.ref 1000000, .ref 0, .ref 353, .ref 363, .int (jI (i : Int)), Y5, Y6] [] J' lg' B) : lw N xs 3082 [.ref 1000000, .ref 0, .ref 353, .ref 363, .int (jI (i : Int)), X5, X6] [] J lg (B + 6) := by
  have hop : Op (lg, N, xs) k [] 153 322 [.ref 0] [.ref 353] := op_textLength (by omega)
  obtain ⟨o, J1, v, J2, h1, h2, gc, gt, mt⟩ := hop J g t
  have ho := mtc_0 mt
  subst ho
  obtain ⟨J9, lg9, u9, h9, b9⟩ := nx J2 lg X5 X6 gc gt
  refine ⟨J9, lg9, 0 + (0 + u9), ?_, by omega⟩
  refine hx_go 1 (pc' := 3083) (L' := [.ref 1000000, .ref 0, .ref 353, .ref 363, .int (jI (i : Int)), X5, X6]) (S' := [.ref 0]) rfl ?_
  refine hx_ok (a := 153) (b := 0) (as := [.ref 0]) (S' := []) rfl rfl (fun _ _ => rfl) (by decide) (zargI_ok rfl (zrecv_of (ci := 9) (by decide) h_0)) rfl (run_of h1) ?_
  refine hx_go 1 (pc' := 3087) (L' := [.ref 1000000, .ref 0, .ref 353, .ref 363, .int (jI (i : Int)), X5, X6]) (S' := [.ref 353, .int (jI v)]) rfl ?_
  refine hx_ok (a := 322) (b := 0) (as := [.ref 353]) (S' := [.int (jI v)]) rfl rfl (fun _ _ => rfl) (by decide) (zargI_ok rfl (zrecv_of (ci := 10) (by decide) h_353)) rfl (run_of h2) ?_
  refine hx_ic rfl ?_
  exact h9
/-- textByte -/
theorem cs_55 (hi : i + 6 ≤ N) (hN : N ≤ 3072) (g : GC J J) (t : GT k J) (k0 : 0 ≤ k) (k1 : k ≤ 21500) (nx : ∀ J' lg' Y5 Y6, GC J' J' → GT (k + 42) J' → lw N xs 3265 [.ref 1000000, .ref 0, .ref 353, .ref 363, .int (jI (i : Int)), Y5, Y6] [] J' lg' B) : lw N xs 3095 [.ref 1000000, .ref 0, .ref 353, .ref 363, .int (jI (i : Int)), X5, X6] [] J lg (B + 6) := by
  have hop : Op (lg, N, xs) k [0] 154 323 [.ref 0, .int (jI (xs (i + 1)).toInt)] [.ref 353, .int (jI (xs (i + 1)).toInt)] := op_textByte (by omega) (jI_lo _) (jI_hi _)
  obtain ⟨o, J1, v, J2, h1, h2, gc, gt, mt⟩ := hop J g t
  simp only [jI_of] at h1 h2
  obtain ⟨lg1, u1, hh, hu, hv⟩ := hp_382 (J1 := J1) (z0 := xs (i + 1)) h1 mt
  have tb := mtc_b mt (by decide)
  obtain ⟨J9, lg9, u9, h9, b9⟩ := nx J2 lg1 (.int (jI (J2 353 0))) (.int (jI v)) gc gt
  refine ⟨J9, lg9, u1 + (0 + (0 + u9)), ?_, by omega⟩
  refine hx_go 5 (pc' := 3101) (L' := [.ref 1000000, .ref 0, .ref 353, .ref 363, .int (jI (i : Int)), X5, X6]) (S' := [.int (jI (i : Int) + Int32.ofInt 1), .ref 1000000, .ref 0]) rfl ?_
  refine hx_scj 1 rfl rfl (by omega) hN ?_
  refine hx_go 1 (pc' := 3103) (L' := [.ref 1000000, .ref 0, .ref 353, .ref 363, .int (jI (i : Int)), X5, X6]) (S' := [.ref 363, .int (xs (i + 1)), .ref 0]) rfl ?_
  refine hx_ok (a := 382) (b := 3) (as := [.ref 0, .int (xs (i + 1)), .ref 363]) (S' := []) rfl rfl (fun _ _ => rfl) (by decide) rfl rfl hh ?_
  refine hx_go 6 (pc' := 3114) (L' := [.ref 1000000, .ref 0, .ref 353, .ref 363, .int (jI (i : Int)), .int (jI (J2 353 0)), X6]) (S' := [.int (jI (i : Int) + Int32.ofInt 1), .ref 1000000, .ref 353]) rfl ?_
  refine hx_scj 1 rfl rfl (by omega) hN ?_
  refine hx_ok (a := 323) (b := 1) (as := [.ref 353, .int (xs (i + 1))]) (S' := []) rfl rfl (fun _ _ => rfl) (by decide) (zargI_ok rfl (zrecv_of (ci := 10) (by decide) h_353)) rfl (run_W (by decide) (by repeat' first | exact cln_n | apply cln_i | exact cln_c r353_ok cln_n | apply cln_c r353_ok | apply cln_c fl_ok) h2) ?_
  refine hx_go 2 (pc' := 3121) (L' := [.ref 1000000, .ref 0, .ref 353, .ref 363, .int (jI (i : Int)), .int (jI (J2 353 0)), .int (jI v)]) (S' := [.ref 353]) rfl ?_
  refine hx_ok (a := 175) (b := 0) (as := [.ref 353]) (S' := []) rfl rfl (fun _ _ => rfl) (by decide) (zargI_ok rfl (zrecv_of (ci := 10) (by decide) h_353)) rfl (run_of thr_run) ?_
  refine hx_go 1 (pc' := 3126) (L' := [.ref 1000000, .ref 0, .ref 353, .ref 363, .int (jI (i : Int)), .int (jI (J2 353 0)), .int (jI v)]) (S' := [.int (jI (J2 353 0)), .int (jI (J2 353 0))]) rfl ?_
  refine hx_ic rfl ?_
  refine hx_go 1 (pc' := 3133) (L' := [.ref 1000000, .ref 0, .ref 353, .ref 363, .int (jI (i : Int)), .int (jI (J2 353 0)), .int (jI v)]) (S' := [.int (jI (J2 353 0))]) rfl ?_
  by_cases h0 : J2 353 0 = 0
  · refine hx_n1' rfl (by rw [h0]; rfl) ?_
    refine hx_go 2 (pc' := 3138) (L' := [.ref 1000000, .ref 0, .ref 353, .ref 363, .int (jI (i : Int)), .int (jI (J2 353 0)), .int (jI v)]) (S' := [.int (Int32.ofInt 0), .ref 363]) rfl ?_
    refine hx_ll rfl ?_
    rw [hv h0]
    refine hx_go 2 (pc' := 3142) (L' := [.ref 1000000, .ref 0, .ref 353, .ref 363, .int (jI (i : Int)), .int (jI (J2 353 0)), .int (jI v)]) (S' := [.long (jI v).toInt64, .long (jI v).toInt64]) rfl ?_
    refine hx_lc rfl rfl ?_
    refine hx_go 1 (pc' := 3265) (L' := [.ref 1000000, .ref 0, .ref 353, .ref 363, .int (jI (i : Int)), .int (jI (J2 353 0)), .int (jI v)]) (S' := []) rfl ?_
    exact h9
  · refine hx_n0 rfl (by rw [ne_eq, jI_eq0 (by omega) (by omega)]; exact h0) ?_
    refine hx_go 1 (pc' := 3265) (L' := [.ref 1000000, .ref 0, .ref 353, .ref 363, .int (jI (i : Int)), .int (jI (J2 353 0)), .int (jI v)]) (S' := []) rfl ?_
    exact h9
/-- undo -/
theorem cs_56 (hi : i + 6 ≤ N) (hN : N ≤ 3072) (g : GC J J) (t : GT k J) (k0 : 0 ≤ k) (k1 : k ≤ 21500) (nx : ∀ J' lg' Y5 Y6, GC J' J' → GT (k + 42) J' → lw N xs 3265 [.ref 1000000, .ref 0, .ref 353, .ref 363, .int (jI (i : Int)), Y5, Y6] [] J' lg' B) : lw N xs 3151 [.ref 1000000, .ref 0, .ref 353, .ref 363, .int (jI (i : Int)), X5, X6] [] J lg (B + 6) := by
  have hop : Op (lg, N, xs) k [2] 155 324 [.ref 0] [.ref 353, .float 0] := op_undo (by omega)
  obtain ⟨o, J1, v, J2, h1, h2, gc, gt, mt⟩ := hop J g t
  obtain ⟨lg1, u1, hh, hu, hv⟩ := hp_383 (J1 := J1)  h1 mt
  have tb := mtc_b mt (by decide)
  obtain ⟨J9, lg9, u9, h9, b9⟩ := nx J2 lg1 (.int (jI (J2 353 0))) (.int (jI v)) gc gt
  refine ⟨J9, lg9, u1 + (0 + (0 + u9)), ?_, by omega⟩
  refine hx_go 2 (pc' := 3153) (L' := [.ref 1000000, .ref 0, .ref 353, .ref 363, .int (jI (i : Int)), X5, X6]) (S' := [.ref 363, .ref 0]) rfl ?_
  refine hx_ok (a := 383) (b := 2) (as := [.ref 0, .ref 363]) (S' := []) rfl rfl (fun _ _ => rfl) (by decide) rfl rfl hh ?_
  refine hx_go 2 (pc' := 3159) (L' := [.ref 1000000, .ref 0, .ref 353, .ref 363, .int (jI (i : Int)), .int (jI (J2 353 0)), X6]) (S' := [.ref 353]) rfl ?_
  refine hx_ok (a := 324) (b := 0) (as := [.ref 353]) (S' := []) rfl rfl (fun _ _ => rfl) (by decide) (zargI_ok rfl (zrecv_of (ci := 10) (by decide) h_353)) rfl (run_W (by decide) (by repeat' first | exact cln_n | apply cln_i | exact cln_c r353_ok cln_n | apply cln_c r353_ok | apply cln_c fl_ok) h2) ?_
  refine hx_go 2 (pc' := 3165) (L' := [.ref 1000000, .ref 0, .ref 353, .ref 363, .int (jI (i : Int)), .int (jI (J2 353 0)), .int (jI v)]) (S' := [.ref 353]) rfl ?_
  refine hx_ok (a := 175) (b := 0) (as := [.ref 353]) (S' := []) rfl rfl (fun _ _ => rfl) (by decide) (zargI_ok rfl (zrecv_of (ci := 10) (by decide) h_353)) rfl (run_of thr_run) ?_
  refine hx_go 1 (pc' := 3170) (L' := [.ref 1000000, .ref 0, .ref 353, .ref 363, .int (jI (i : Int)), .int (jI (J2 353 0)), .int (jI v)]) (S' := [.int (jI (J2 353 0)), .int (jI (J2 353 0))]) rfl ?_
  refine hx_ic rfl ?_
  refine hx_go 1 (pc' := 3177) (L' := [.ref 1000000, .ref 0, .ref 353, .ref 363, .int (jI (i : Int)), .int (jI (J2 353 0)), .int (jI v)]) (S' := [.int (jI (J2 353 0))]) rfl ?_
  by_cases h0 : J2 353 0 = 0
  · refine hx_n1' rfl (by rw [h0]; rfl) ?_
    refine hx_go 2 (pc' := 3182) (L' := [.ref 1000000, .ref 0, .ref 353, .ref 363, .int (jI (i : Int)), .int (jI (J2 353 0)), .int (jI v)]) (S' := [.int (Int32.ofInt 0), .ref 363]) rfl ?_
    refine hx_ll rfl ?_
    rw [hv h0]
    refine hx_go 2 (pc' := 3186) (L' := [.ref 1000000, .ref 0, .ref 353, .ref 363, .int (jI (i : Int)), .int (jI (J2 353 0)), .int (jI v)]) (S' := [.long (jI v).toInt64, .long (jI v).toInt64]) rfl ?_
    refine hx_lc rfl rfl ?_
    refine hx_go 1 (pc' := 3265) (L' := [.ref 1000000, .ref 0, .ref 353, .ref 363, .int (jI (i : Int)), .int (jI (J2 353 0)), .int (jI v)]) (S' := []) rfl ?_
    exact h9
  · refine hx_n0 rfl (by rw [ne_eq, jI_eq0 (by omega) (by omega)]; exact h0) ?_
    refine hx_go 1 (pc' := 3265) (L' := [.ref 1000000, .ref 0, .ref 353, .ref 363, .int (jI (i : Int)), .int (jI (J2 353 0)), .int (jI v)]) (S' := []) rfl ?_
    exact h9
/-- undoCount -/
theorem cs_57 (hi : i + 6 ≤ N) (hN : N ≤ 3072) (g : GC J J) (t : GT k J) (k0 : 0 ≤ k) (k1 : k ≤ 21500) (nx : ∀ J' lg' Y5 Y6, GC J' J' → GT (k + 42) J' → lw N xs 3265 [.ref 1000000, .ref 0, .ref 353, .ref 363, .int (jI (i : Int)), Y5, Y6] [] J' lg' B) : lw N xs 3195 [.ref 1000000, .ref 0, .ref 353, .ref 363, .int (jI (i : Int)), X5, X6] [] J lg (B + 6) := by
  have hop : Op (lg, N, xs) k [] 156 325 [.ref 0] [.ref 353] := op_undoCount (by omega)
  obtain ⟨o, J1, v, J2, h1, h2, gc, gt, mt⟩ := hop J g t
  have ho := mtc_0 mt
  subst ho
  obtain ⟨J9, lg9, u9, h9, b9⟩ := nx J2 lg X5 X6 gc gt
  refine ⟨J9, lg9, 0 + (0 + u9), ?_, by omega⟩
  refine hx_go 1 (pc' := 3196) (L' := [.ref 1000000, .ref 0, .ref 353, .ref 363, .int (jI (i : Int)), X5, X6]) (S' := [.ref 0]) rfl ?_
  refine hx_ok (a := 156) (b := 0) (as := [.ref 0]) (S' := []) rfl rfl (fun _ _ => rfl) (by decide) (zargI_ok rfl (zrecv_of (ci := 9) (by decide) h_0)) rfl (run_of h1) ?_
  refine hx_go 1 (pc' := 3200) (L' := [.ref 1000000, .ref 0, .ref 353, .ref 363, .int (jI (i : Int)), X5, X6]) (S' := [.ref 353, .int (jI v)]) rfl ?_
  refine hx_ok (a := 325) (b := 0) (as := [.ref 353]) (S' := [.int (jI v)]) rfl rfl (fun _ _ => rfl) (by decide) (zargI_ok rfl (zrecv_of (ci := 10) (by decide) h_353)) rfl (run_of h2) ?_
  refine hx_ic rfl ?_
  exact h9
/-- save -/
theorem cs_58 (hi : i + 6 ≤ N) (hN : N ≤ 3072) (g : GC J J) (t : GT k J) (k0 : 0 ≤ k) (k1 : k ≤ 21500) (nx : ∀ J' lg' Y5 Y6, GC J' J' → GT (k + 42) J' → lw N xs 3265 [.ref 1000000, .ref 0, .ref 353, .ref 363, .int (jI (i : Int)), Y5, Y6] [] J' lg' B) : lw N xs 3208 [.ref 1000000, .ref 0, .ref 353, .ref 363, .int (jI (i : Int)), X5, X6] [] J lg (B + 6) := by
  have hop : Op (lg, N, xs) k [] 157 326 [.ref 0] [.ref 353] := op_save (by omega)
  obtain ⟨o, J1, v, J2, h1, h2, gc, gt, mt⟩ := hop J g t
  have ho := mtc_0 mt
  subst ho
  obtain ⟨J9, lg9, u9, h9, b9⟩ := nx J2 lg X5 X6 gc gt
  refine ⟨J9, lg9, 0 + (0 + u9), ?_, by omega⟩
  refine hx_go 1 (pc' := 3209) (L' := [.ref 1000000, .ref 0, .ref 353, .ref 363, .int (jI (i : Int)), X5, X6]) (S' := [.ref 0]) rfl ?_
  refine hx_ok (a := 157) (b := 0) (as := [.ref 0]) (S' := []) rfl rfl (fun _ _ => rfl) (by decide) (zargI_ok rfl (zrecv_of (ci := 9) (by decide) h_0)) rfl (run_of h1) ?_
  refine hx_go 1 (pc' := 3213) (L' := [.ref 1000000, .ref 0, .ref 353, .ref 363, .int (jI (i : Int)), X5, X6]) (S' := [.ref 353, .int (jI v)]) rfl ?_
  refine hx_ok (a := 326) (b := 0) (as := [.ref 353]) (S' := [.int (jI v)]) rfl rfl (fun _ _ => rfl) (by decide) (zargI_ok rfl (zrecv_of (ci := 10) (by decide) h_353)) rfl (run_of h2) ?_
  refine hx_ic rfl ?_
  exact h9
/-- restore -/
theorem cs_59 (hi : i + 6 ≤ N) (hN : N ≤ 3072) (g : GC J J) (t : GT k J) (k0 : 0 ≤ k) (k1 : k ≤ 21500) (nx : ∀ J' lg' Y5 Y6, GC J' J' → GT (k + 42) J' → lw N xs 3265 [.ref 1000000, .ref 0, .ref 353, .ref 363, .int (jI (i : Int)), Y5, Y6] [] J' lg' B) : lw N xs 3221 [.ref 1000000, .ref 0, .ref 353, .ref 363, .int (jI (i : Int)), X5, X6] [] J lg (B + 6) := by
  have hop : Op (lg, N, xs) k [2] 158 327 [.ref 0] [.ref 353] := op_restore (by omega)
  obtain ⟨o, J1, v, J2, h1, h2, gc, gt, mt⟩ := hop J g t
  obtain ⟨lg1, u1, hh, hu, hv⟩ := hp_384 (J1 := J1)  h1 mt
  have tb := mtc_b mt (by decide)
  obtain ⟨J9, lg9, u9, h9, b9⟩ := nx J2 lg1 (.int (jI (J2 353 0))) (.int (jI v)) gc gt
  refine ⟨J9, lg9, u1 + (0 + (0 + u9)), ?_, by omega⟩
  refine hx_go 2 (pc' := 3223) (L' := [.ref 1000000, .ref 0, .ref 353, .ref 363, .int (jI (i : Int)), X5, X6]) (S' := [.ref 363, .ref 0]) rfl ?_
  refine hx_ok (a := 384) (b := 2) (as := [.ref 0, .ref 363]) (S' := []) rfl rfl (fun _ _ => rfl) (by decide) rfl rfl hh ?_
  refine hx_go 2 (pc' := 3229) (L' := [.ref 1000000, .ref 0, .ref 353, .ref 363, .int (jI (i : Int)), .int (jI (J2 353 0)), X6]) (S' := [.ref 353]) rfl ?_
  refine hx_ok (a := 327) (b := 0) (as := [.ref 353]) (S' := []) rfl rfl (fun _ _ => rfl) (by decide) (zargI_ok rfl (zrecv_of (ci := 10) (by decide) h_353)) rfl (run_W (by decide) (by repeat' first | exact cln_n | apply cln_i | exact cln_c r353_ok cln_n | apply cln_c r353_ok | apply cln_c fl_ok) h2) ?_
  refine hx_go 2 (pc' := 3235) (L' := [.ref 1000000, .ref 0, .ref 353, .ref 363, .int (jI (i : Int)), .int (jI (J2 353 0)), .int (jI v)]) (S' := [.ref 353]) rfl ?_
  refine hx_ok (a := 175) (b := 0) (as := [.ref 353]) (S' := []) rfl rfl (fun _ _ => rfl) (by decide) (zargI_ok rfl (zrecv_of (ci := 10) (by decide) h_353)) rfl (run_of thr_run) ?_
  refine hx_go 1 (pc' := 3240) (L' := [.ref 1000000, .ref 0, .ref 353, .ref 363, .int (jI (i : Int)), .int (jI (J2 353 0)), .int (jI v)]) (S' := [.int (jI (J2 353 0)), .int (jI (J2 353 0))]) rfl ?_
  refine hx_ic rfl ?_
  refine hx_go 1 (pc' := 3247) (L' := [.ref 1000000, .ref 0, .ref 353, .ref 363, .int (jI (i : Int)), .int (jI (J2 353 0)), .int (jI v)]) (S' := [.int (jI (J2 353 0))]) rfl ?_
  by_cases h0 : J2 353 0 = 0
  · refine hx_n1' rfl (by rw [h0]; rfl) ?_
    refine hx_go 2 (pc' := 3252) (L' := [.ref 1000000, .ref 0, .ref 353, .ref 363, .int (jI (i : Int)), .int (jI (J2 353 0)), .int (jI v)]) (S' := [.int (Int32.ofInt 0), .ref 363]) rfl ?_
    refine hx_ll rfl ?_
    rw [hv h0]
    refine hx_go 2 (pc' := 3256) (L' := [.ref 1000000, .ref 0, .ref 353, .ref 363, .int (jI (i : Int)), .int (jI (J2 353 0)), .int (jI v)]) (S' := [.long (jI v).toInt64, .long (jI v).toInt64]) rfl ?_
    refine hx_lc rfl rfl ?_
    refine hx_go 1 (pc' := 3265) (L' := [.ref 1000000, .ref 0, .ref 353, .ref 363, .int (jI (i : Int)), .int (jI (J2 353 0)), .int (jI v)]) (S' := []) rfl ?_
    exact h9
  · refine hx_n0 rfl (by rw [ne_eq, jI_eq0 (by omega) (by omega)]; exact h0) ?_
    refine hx_go 1 (pc' := 3265) (L' := [.ref 1000000, .ref 0, .ref 353, .ref 363, .int (jI (i : Int)), .int (jI (J2 353 0)), .int (jI v)]) (S' := []) rfl ?_
    exact h9
end
