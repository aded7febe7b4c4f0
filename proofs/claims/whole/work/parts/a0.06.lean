theorem zk120 : zchkM zm120 = true := by decide +kernel
theorem zw120 : zmw zm120 (1272, 0, 1270, 1271, 126) = true := by decide +kernel
theorem zk121 : zchkM zm121 = true := by decide +kernel
theorem zw121 : zmw zm121 (151, 2, 150, 0, 125) = true := by decide +kernel
theorem zk122 : zchkM zm122 = true := by decide +kernel
theorem zw122 : zmw zm122 (547, 0, 545, 546, 125) = true := by decide +kernel
theorem zk123 : zchkM zm123 = true := by decide +kernel
theorem zw123 : zmw zm123 (555, 0, 553, 554, 125) = true := by decide +kernel
theorem zk124 : zchkM zm124 = true := by decide +kernel
theorem zw124 : zmw zm124 (558, 1, 557, 0, 125) = true := by decide +kernel
theorem zk125 : zchkM zm125 = true := by decide +kernel
theorem zw125 : zmw zm125 (565, 1, 564, 0, 125) = true := by decide +kernel
theorem zk126 : zchkM zm126 = true := by decide +kernel
theorem zw126 : zmw zm126 (581, 0, 579, 580, 125) = true := by decide +kernel
theorem zk127 : zchkM zm127 = true := by decide +kernel
theorem zw127 : zmw zm127 (589, 0, 587, 588, 125) = true := by decide +kernel
theorem zk128 : zchkM zm128 = true := by decide +kernel
theorem zw128 : zmw zm128 (593, 0, 592, 0, 125) = true := by decide +kernel
theorem zk129 : zchkM zm129 = true := by decide +kernel
theorem zw129 : zmw zm129 (611, 0, 609, 610, 125) = true := by decide +kernel
theorem zk130 : zchkM zm130 = true := by decide +kernel
theorem zw130 : zmw zm130 (740, 0, 738, 739, 125) = true := by decide +kernel
theorem zk131 : zchkM zm131 = true := by decide +kernel
theorem zw131 : zmw zm131 (748, 0, 746, 747, 125) = true := by decide +kernel
theorem zk132 : zchkM zm132 = true := by decide +kernel
theorem zw132 : zmw zm132 (752, 0, 750, 751, 125) = true := by decide +kernel
theorem zk133 : zchkM zm133 = true := by decide +kernel
theorem zw133 : zmw zm133 (1004, 0, 1002, 1003, 125) = true := by decide +kernel
theorem zk134 : zchkM zm134 = true := by decide +kernel
theorem zw134 : zmw zm134 (1008, 0, 1006, 1007, 125) = true := by decide +kernel
theorem zk135 : zchkM zm135 = true := by decide +kernel
theorem zw135 : zmw zm135 (1012, 0, 1011, 28, 125) = true := by decide +kernel
theorem zk136 : zchkM zm136 = true := by decide +kernel
theorem zw136 : zmw zm136 (1019, 0, 1017, 1018, 125) = true := by decide +kernel
theorem zk137 : zchkM zm137 = true := by decide +kernel
theorem zw137 : zmw zm137 (1026, 0, 1024, 1025, 125) = true := by decide +kernel
theorem zk138 : zchkM zm138 = true := by decide +kernel
theorem zw138 : zmw zm138 (1034, 0, 1032, 1033, 125) = true := by decide +kernel
theorem zk139 : zchkM zm139 = true := by decide +kernel
theorem zw139 : zmw zm139 (1048, 0, 1046, 1047, 125) = true := by decide +kernel
