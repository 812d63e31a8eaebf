theorem zc_385_8aa : zall zr_385 64 (((zt_385_8).take 4).take 2) = true := by decide +kernel
theorem zc_385_8ab : zall zr_385 66 (((zt_385_8).take 4).drop 2) = true := by decide +kernel
theorem zc_385_8a : zall zr_385 64 ((zt_385_8).take 4) = true := zall_td (n := 2) (m := 2) rfl zc_385_8aa zc_385_8ab
theorem zc_385_8ba : zall zr_385 68 (((zt_385_8).drop 4).take 2) = true := by decide +kernel
theorem zc_385_8bb : zall zr_385 70 (((zt_385_8).drop 4).drop 2) = true := by decide +kernel
theorem zc_385_8b : zall zr_385 68 ((zt_385_8).drop 4) = true := zall_td (n := 2) (m := 2) rfl zc_385_8ba zc_385_8bb
theorem zc_385_8 : zall zr_385 64 (zt_385_8) = true := zall_td (n := 4) (m := 4) rfl zc_385_8a zc_385_8b
