theorem zrk_384 : zokR (zR 384) = true := by decide +kernel
