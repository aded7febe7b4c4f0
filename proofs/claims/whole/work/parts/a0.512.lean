theorem zc161_4 : zchkS zm161 512 128 = true := by decide +kernel
theorem zc161_5 : zchkS zm161 640 128 = true := by decide +kernel
