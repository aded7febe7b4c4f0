theorem zc161_0 : zchkS zm161 0 128 = true := by decide +kernel
theorem zc161_1 : zchkS zm161 128 128 = true := by decide +kernel
