theorem zc_385_12aa : zall zr_385 96 (((zt_385_12).take 4).take 2) = true := by decide +kernel
theorem zc_385_12ab : zall zr_385 98 (((zt_385_12).take 4).drop 2) = true := by decide +kernel
theorem zc_385_12a : zall zr_385 96 ((zt_385_12).take 4) = true := zall_td (n := 2) (m := 2) rfl zc_385_12aa zc_385_12ab
theorem zc_385_12ba : zall zr_385 100 (((zt_385_12).drop 4).take 2) = true := by decide +kernel
theorem zc_385_12bb : zall zr_385 102 (((zt_385_12).drop 4).drop 2) = true := by decide +kernel
theorem zc_385_12b : zall zr_385 100 ((zt_385_12).drop 4) = true := zall_td (n := 2) (m := 2) rfl zc_385_12ba zc_385_12bb
theorem zc_385_12 : zall zr_385 96 (zt_385_12) = true := zall_td (n := 4) (m := 4) rfl zc_385_12a zc_385_12b
theorem zc_385 : zall zr_385 0 zt_385 = true := (zall_app (n := 96) rfl (zall_app (n := 88) rfl (zall_app (n := 80) rfl (zall_app (n := 72) rfl (zall_app (n := 64) rfl (zall_app (n := 56) rfl (zall_app (n := 48) rfl (zall_app (n := 40) rfl (zall_app (n := 32) rfl (zall_app (n := 24) rfl (zall_app (n := 16) rfl (zall_app (n := 8) rfl zc_385_0 zc_385_1) zc_385_2) zc_385_3) zc_385_4) zc_385_5) zc_385_6) zc_385_7) zc_385_8) zc_385_9) zc_385_10) zc_385_11) zc_385_12)
