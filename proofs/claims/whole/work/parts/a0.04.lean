theorem zk80 : zchkM zm80 = true := by decide +kernel
theorem zw80 : zmw zm80 (776, 1, 775, 0, 133) = true := by decide +kernel
theorem zk81 : zchkM zm81 = true := by decide +kernel
theorem zw81 : zmw zm81 (780, 1, 779, 0, 133) = true := by decide +kernel
theorem zk82 : zchkM zm82 = true := by decide +kernel
theorem zw82 : zmw zm82 (784, 0, 783, 10, 133) = true := by decide +kernel
theorem zk83 : zchkM zm83 = true := by decide +kernel
theorem zw83 : zmw zm83 (788, 0, 787, 11, 133) = true := by decide +kernel
theorem zk84 : zchkM zm84 = true := by decide +kernel
theorem zw84 : zmw zm84 (841, 0, 840, 12, 133) = true := by decide +kernel
theorem zk85 : zchkM zm85 = true := by decide +kernel
theorem zw85 : zmw zm85 (901, 0, 899, 900, 133) = true := by decide +kernel
theorem zk86 : zchkM zm86 = true := by decide +kernel
theorem zw86 : zmw zm86 (928, 0, 926, 927, 133) = true := by decide +kernel
theorem zk87 : zchkM zm87 = true := by decide +kernel
theorem zw87 : zmw zm87 (486, 2, 485, 0, 137) = true := by decide +kernel
theorem zk88 : zchkM zm88 = true := by decide +kernel
theorem zw88 : zmw zm88 (1060, 0, 1058, 1059, 137) = true := by decide +kernel
theorem zk89 : zchkM zm89 = true := by decide +kernel
theorem zw89 : zmw zm89 (1065, 0, 1064, 30, 137) = true := by decide +kernel
theorem zk90 : zchkM zm90 = true := by decide +kernel
theorem zw90 : zmw zm90 (1069, 0, 1067, 1068, 137) = true := by decide +kernel
theorem zk91 : zchkM zm91 = true := by decide +kernel
theorem zw91 : zmw zm91 (1073, 0, 1071, 1072, 137) = true := by decide +kernel
theorem zk92 : zchkM zm92 = true := by decide +kernel
theorem zw92 : zmw zm92 (1086, 0, 1084, 1085, 137) = true := by decide +kernel
theorem zk93 : zchkM zm93 = true := by decide +kernel
theorem zw93 : zmw zm93 (1090, 0, 1089, 31, 137) = true := by decide +kernel
theorem zk94 : zchkM zm94 = true := by decide +kernel
theorem zw94 : zmw zm94 (1094, 0, 1093, 32, 137) = true := by decide +kernel
theorem zk95 : zchkM zm95 = true := by decide +kernel
theorem zw95 : zmw zm95 (1098, 0, 1097, 33, 137) = true := by decide +kernel
theorem zk96 : zchkM zm96 = true := by decide +kernel
theorem zw96 : zmw zm96 (1101, 1, 1100, 0, 137) = true := by decide +kernel
theorem zk97 : zchkM zm97 = true := by decide +kernel
theorem zw97 : zmw zm97 (1108, 1, 1107, 0, 137) = true := by decide +kernel
theorem zk98 : zchkM zm98 = true := by decide +kernel
theorem zw98 : zmw zm98 (1111, 1, 1110, 0, 137) = true := by decide +kernel
theorem zk99 : zchkM zm99 = true := by decide +kernel
theorem zw99 : zmw zm99 (1115, 1, 1114, 0, 137) = true := by decide +kernel
