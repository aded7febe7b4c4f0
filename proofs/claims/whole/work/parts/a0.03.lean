theorem zk60 : zchkM zm60 = true := by decide +kernel
theorem zw60 : zmw zm60 (968, 0, 967, 23, 134) = true := by decide +kernel
theorem zk61 : zchkM zm61 = true := by decide +kernel
theorem zw61 : zmw zm61 (972, 0, 971, 24, 134) = true := by decide +kernel
theorem zk62 : zchkM zm62 = true := by decide +kernel
theorem zw62 : zmw zm62 (981, 0, 980, 25, 134) = true := by decide +kernel
theorem zk63 : zchkM zm63 = true := by decide +kernel
theorem zw63 : zmw zm63 (985, 0, 984, 26, 134) = true := by decide +kernel
theorem zk64 : zchkM zm64 = true := by decide +kernel
theorem zw64 : zmw zm64 (989, 0, 988, 27, 134) = true := by decide +kernel
theorem zk65 : zchkM zm65 = true := by decide +kernel
theorem zw65 : zmw zm65 (298, 2, 297, 0, 131) = true := by decide +kernel
theorem zk66 : zchkM zm66 = true := by decide +kernel
theorem zw66 : zmw zm66 (1124, 0, 1122, 1123, 131) = true := by decide +kernel
theorem zk67 : zchkM zm67 = true := by decide +kernel
theorem zw67 : zmw zm67 (1128, 0, 1126, 1127, 131) = true := by decide +kernel
theorem zk68 : zchkM zm68 = true := by decide +kernel
theorem zw68 : zmw zm68 (1142, 0, 1140, 1141, 131) = true := by decide +kernel
theorem zk69 : zchkM zm69 = true := by decide +kernel
theorem zw69 : zmw zm69 (1285, 0, 1283, 1284, 131) = true := by decide +kernel
theorem zk70 : zchkM zm70 = true := by decide +kernel
theorem zw70 : zmw zm70 (283, 2, 282, 0, 130) = true := by decide +kernel
theorem zk71 : zchkM zm71 = true := by decide +kernel
theorem zw71 : zmw zm71 (623, 0, 621, 622, 130) = true := by decide +kernel
theorem zk72 : zchkM zm72 = true := by decide +kernel
theorem zw72 : zmw zm72 (660, 0, 658, 659, 130) = true := by decide +kernel
theorem zk73 : zchkM zm73 = true := by decide +kernel
theorem zw73 : zmw zm73 (765, 0, 763, 764, 130) = true := by decide +kernel
theorem zk74 : zchkM zm74 = true := by decide +kernel
theorem zw74 : zmw zm74 (976, 0, 974, 975, 130) = true := by decide +kernel
theorem zk75 : zchkM zm75 = true := by decide +kernel
theorem zw75 : zmw zm75 (999, 0, 997, 998, 130) = true := by decide +kernel
theorem zk76 : zchkM zm76 = true := by decide +kernel
theorem zw76 : zmw zm76 (365, 2, 364, 0, 133) = true := by decide +kernel
theorem zk77 : zchkM zm77 = true := by decide +kernel
theorem zw77 : zmw zm77 (744, 0, 742, 743, 133) = true := by decide +kernel
theorem zk78 : zchkM zm78 = true := by decide +kernel
theorem zw78 : zmw zm78 (769, 0, 767, 768, 133) = true := by decide +kernel
theorem zk79 : zchkM zm79 = true := by decide +kernel
theorem zw79 : zmw zm79 (773, 0, 772, 9, 133) = true := by decide +kernel
