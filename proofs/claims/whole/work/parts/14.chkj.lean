theorem zc_385_10 : zall zr_385 80 zt_385_10 = true := by decide +kernel
