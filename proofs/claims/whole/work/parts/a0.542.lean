theorem zc290_4 : zchkS zm290 512 128 = true := by decide +kernel
theorem zc290_5 : zchkS zm290 640 128 = true := by decide +kernel
