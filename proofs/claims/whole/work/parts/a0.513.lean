theorem zc161_6 : zchkS zm161 768 128 = true := by decide +kernel
theorem zc161_7 : zchkS zm161 896 128 = true := by decide +kernel
