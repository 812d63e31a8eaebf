theorem zc_385_11 : zall zr_385 88 zt_385_11 = true := by decide +kernel
