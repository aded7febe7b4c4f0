theorem zc290_8 : zchkS zm290 1024 128 = true := by decide +kernel
theorem zc290_9 : zchkS zm290 1152 128 = true := by decide +kernel
