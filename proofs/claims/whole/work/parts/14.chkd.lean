theorem zc_385_0 : zall zr_385 0 zt_385_0 = true := by decide +kernel
theorem zc_385_1 : zall zr_385 8 zt_385_1 = true := by decide +kernel
theorem zc_385_2 : zall zr_385 16 zt_385_2 = true := by decide +kernel
theorem zc_385_3 : zall zr_385 24 zt_385_3 = true := by decide +kernel
