theorem zc161_2 : zchkS zm161 256 128 = true := by decide +kernel
theorem zc161_3 : zchkS zm161 384 128 = true := by decide +kernel
