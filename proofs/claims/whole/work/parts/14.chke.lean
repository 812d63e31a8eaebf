theorem zc_385_4 : zall zr_385 32 zt_385_4 = true := by decide +kernel
theorem zc_385_5 : zall zr_385 40 zt_385_5 = true := by decide +kernel
