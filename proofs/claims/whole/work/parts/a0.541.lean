theorem zc290_2 : zchkS zm290 256 128 = true := by decide +kernel
theorem zc290_3 : zchkS zm290 384 128 = true := by decide +kernel
