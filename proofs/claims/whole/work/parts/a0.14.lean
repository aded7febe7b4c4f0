theorem zk281 : zchkM zm281 = true := by decide +kernel
theorem zw281 : zmw zm281 (1964, 0, 1963, 122, 138) = true := by decide +kernel
theorem zk282 : zchkM zm282 = true := by decide +kernel
theorem zw282 : zmw zm282 (1968, 0, 1967, 123, 138) = true := by decide +kernel
theorem zk283 : zchkM zm283 = true := by decide +kernel
theorem zw283 : zmw zm283 (1972, 0, 1970, 1971, 138) = true := by decide +kernel
theorem zk284 : zchkM zm284 = true := by decide +kernel
theorem zw284 : zmw zm284 (649, 1, 648, 0, 140) = true := by decide +kernel
theorem zk285 : zchkM zm285 = true := by decide +kernel
theorem zw285 : zmw zm285 (685, 1, 684, 0, 141) = true := by decide +kernel
theorem zk286 : zchkM zm286 = true := by decide +kernel
theorem zw286 : zmw zm286 (676, 1, 675, 0, 132) = true := by decide +kernel
theorem zk287 : zchkM zm287 = true := by decide +kernel
theorem zw287 : zmw zm287 (302, 1, 301, 0, 132) = true := by decide +kernel
theorem zk288 : zchkM zm288 = true := by decide +kernel
theorem zw288 : zmw zm288 (607, 1, 606, 0, 132) = true := by decide +kernel
theorem zk289 : zchkM zm289 = true := by decide +kernel
theorem zw289 : zmw zm289 (1145, 1, 1144, 0, 132) = true := by decide +kernel
