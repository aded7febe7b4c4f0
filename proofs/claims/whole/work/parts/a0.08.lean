theorem zk160 : zchkM zm160 = true := by decide +kernel
theorem zw160 : zmw zm160 (1291, 0, 1289, 1290, 125) = true := by decide +kernel
theorem zk162 : zchkM zm162 = true := by decide +kernel
theorem zw162 : zmw zm162 (1485, 0, 1483, 1484, 138) = true := by decide +kernel
theorem zk163 : zchkM zm163 = true := by decide +kernel
theorem zw163 : zmw zm163 (1489, 0, 1487, 1488, 138) = true := by decide +kernel
theorem zk164 : zchkM zm164 = true := by decide +kernel
theorem zw164 : zmw zm164 (1493, 0, 1491, 1492, 138) = true := by decide +kernel
theorem zk165 : zchkM zm165 = true := by decide +kernel
theorem zw165 : zmw zm165 (1497, 0, 1496, 36, 138) = true := by decide +kernel
theorem zk166 : zchkM zm166 = true := by decide +kernel
theorem zw166 : zmw zm166 (1501, 0, 1500, 37, 138) = true := by decide +kernel
theorem zk167 : zchkM zm167 = true := by decide +kernel
theorem zw167 : zmw zm167 (1505, 0, 1504, 38, 138) = true := by decide +kernel
theorem zk168 : zchkM zm168 = true := by decide +kernel
theorem zw168 : zmw zm168 (1509, 0, 1507, 1508, 138) = true := by decide +kernel
theorem zk169 : zchkM zm169 = true := by decide +kernel
theorem zw169 : zmw zm169 (1513, 0, 1512, 39, 138) = true := by decide +kernel
theorem zk170 : zchkM zm170 = true := by decide +kernel
theorem zw170 : zmw zm170 (1517, 0, 1515, 1516, 138) = true := by decide +kernel
theorem zk171 : zchkM zm171 = true := by decide +kernel
theorem zw171 : zmw zm171 (1521, 0, 1520, 40, 138) = true := by decide +kernel
theorem zk172 : zchkM zm172 = true := by decide +kernel
theorem zw172 : zmw zm172 (1525, 0, 1523, 1524, 138) = true := by decide +kernel
theorem zk173 : zchkM zm173 = true := by decide +kernel
theorem zw173 : zmw zm173 (1529, 0, 1527, 1528, 138) = true := by decide +kernel
theorem zk174 : zchkM zm174 = true := by decide +kernel
theorem zw174 : zmw zm174 (1533, 0, 1532, 41, 138) = true := by decide +kernel
theorem zk175 : zchkM zm175 = true := by decide +kernel
theorem zw175 : zmw zm175 (1537, 0, 1536, 42, 138) = true := by decide +kernel
theorem zk176 : zchkM zm176 = true := by decide +kernel
theorem zw176 : zmw zm176 (1541, 0, 1540, 43, 138) = true := by decide +kernel
theorem zk177 : zchkM zm177 = true := by decide +kernel
theorem zw177 : zmw zm177 (1545, 0, 1544, 44, 138) = true := by decide +kernel
theorem zk178 : zchkM zm178 = true := by decide +kernel
theorem zw178 : zmw zm178 (1549, 0, 1548, 45, 138) = true := by decide +kernel
theorem zk179 : zchkM zm179 = true := by decide +kernel
theorem zw179 : zmw zm179 (1553, 0, 1552, 46, 138) = true := by decide +kernel
theorem zk180 : zchkM zm180 = true := by decide +kernel
theorem zw180 : zmw zm180 (1557, 0, 1556, 47, 138) = true := by decide +kernel
