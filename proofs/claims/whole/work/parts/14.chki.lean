theorem zc_385_9 : zall zr_385 72 zt_385_9 = true := by decide +kernel
