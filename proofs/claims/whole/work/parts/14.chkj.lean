theorem zc_385_10aa : zall zr_385 80 (((zt_385_10).take 4).take 2) = true := by decide +kernel
theorem zc_385_10ab : zall zr_385 82 (((zt_385_10).take 4).drop 2) = true := by decide +kernel
theorem zc_385_10a : zall zr_385 80 ((zt_385_10).take 4) = true := zall_td (n := 2) (m := 2) rfl zc_385_10aa zc_385_10ab
theorem zc_385_10ba : zall zr_385 84 (((zt_385_10).drop 4).take 2) = true := by decide +kernel
theorem zc_385_10bb : zall zr_385 86 (((zt_385_10).drop 4).drop 2) = true := by decide +kernel
theorem zc_385_10b : zall zr_385 84 ((zt_385_10).drop 4) = true := zall_td (n := 2) (m := 2) rfl zc_385_10ba zc_385_10bb
theorem zc_385_10 : zall zr_385 80 (zt_385_10) = true := zall_td (n := 4) (m := 4) rfl zc_385_10a zc_385_10b
