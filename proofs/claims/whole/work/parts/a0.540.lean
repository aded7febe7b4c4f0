theorem zc290_0 : zchkS zm290 0 128 = true := by decide +kernel
theorem zc290_1 : zchkS zm290 128 128 = true := by decide +kernel
