theorem zc_385_9aa : zall zr_385 72 (((zt_385_9).take 4).take 2) = true := by decide +kernel
theorem zc_385_9ab : zall zr_385 74 (((zt_385_9).take 4).drop 2) = true := by decide +kernel
theorem zc_385_9a : zall zr_385 72 ((zt_385_9).take 4) = true := zall_td (n := 2) (m := 2) rfl zc_385_9aa zc_385_9ab
theorem zc_385_9ba : zall zr_385 76 (((zt_385_9).drop 4).take 2) = true := by decide +kernel
theorem zc_385_9bb : zall zr_385 78 (((zt_385_9).drop 4).drop 2) = true := by decide +kernel
theorem zc_385_9b : zall zr_385 76 ((zt_385_9).drop 4) = true := zall_td (n := 2) (m := 2) rfl zc_385_9ba zc_385_9bb
theorem zc_385_9 : zall zr_385 72 (zt_385_9) = true := zall_td (n := 4) (m := 4) rfl zc_385_9a zc_385_9b
