theorem zc290_6 : zchkS zm290 768 128 = true := by decide +kernel
theorem zc290_7 : zchkS zm290 896 128 = true := by decide +kernel
