theorem zc_385_8 : zall zr_385 64 zt_385_8 = true := by decide +kernel
