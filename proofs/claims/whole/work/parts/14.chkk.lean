theorem zc_385_11aa : zall zr_385 88 (((zt_385_11).take 4).take 2) = true := by decide +kernel
theorem zc_385_11ab : zall zr_385 90 (((zt_385_11).take 4).drop 2) = true := by decide +kernel
theorem zc_385_11a : zall zr_385 88 ((zt_385_11).take 4) = true := zall_td (n := 2) (m := 2) rfl zc_385_11aa zc_385_11ab
theorem zc_385_11ba : zall zr_385 92 (((zt_385_11).drop 4).take 2) = true := by decide +kernel
theorem zc_385_11bb : zall zr_385 94 (((zt_385_11).drop 4).drop 2) = true := by decide +kernel
theorem zc_385_11b : zall zr_385 92 ((zt_385_11).drop 4) = true := zall_td (n := 2) (m := 2) rfl zc_385_11ba zc_385_11bb
theorem zc_385_11 : zall zr_385 88 (zt_385_11) = true := zall_td (n := 4) (m := 4) rfl zc_385_11a zc_385_11b
