theorem zc290_10 : zchkS zm290 1280 128 = true := by decide +kernel
