theorem zc_385_7aa : zall zr_385 56 (((zt_385_7).take 4).take 2) = true := by decide +kernel
theorem zc_385_7ab : zall zr_385 58 (((zt_385_7).take 4).drop 2) = true := by decide +kernel
theorem zc_385_7a : zall zr_385 56 ((zt_385_7).take 4) = true := zall_td (n := 2) (m := 2) rfl zc_385_7aa zc_385_7ab
theorem zc_385_7ba : zall zr_385 60 (((zt_385_7).drop 4).take 2) = true := by decide +kernel
theorem zc_385_7bb : zall zr_385 62 (((zt_385_7).drop 4).drop 2) = true := by decide +kernel
theorem zc_385_7b : zall zr_385 60 ((zt_385_7).drop 4) = true := zall_td (n := 2) (m := 2) rfl zc_385_7ba zc_385_7bb
theorem zc_385_7 : zall zr_385 56 (zt_385_7) = true := zall_td (n := 4) (m := 4) rfl zc_385_7a zc_385_7b
