theorem zc_385_7 : zall zr_385 56 zt_385_7 = true := by decide +kernel
