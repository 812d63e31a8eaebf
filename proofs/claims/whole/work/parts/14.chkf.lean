theorem zc_385_6 : zall zr_385 48 zt_385_6 = true := by decide +kernel
