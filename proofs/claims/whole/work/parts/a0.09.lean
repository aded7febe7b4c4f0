theorem zk181 : zchkM zm181 = true := by decide +kernel
theorem zw181 : zmw zm181 (1561, 0, 1560, 48, 138) = true := by decide +kernel
theorem zk182 : zchkM zm182 = true := by decide +kernel
theorem zw182 : zmw zm182 (1565, 0, 1564, 49, 138) = true := by decide +kernel
theorem zk183 : zchkM zm183 = true := by decide +kernel
theorem zw183 : zmw zm183 (1569, 0, 1568, 50, 138) = true := by decide +kernel
theorem zk184 : zchkM zm184 = true := by decide +kernel
theorem zw184 : zmw zm184 (1573, 0, 1572, 51, 138) = true := by decide +kernel
theorem zk185 : zchkM zm185 = true := by decide +kernel
theorem zw185 : zmw zm185 (1577, 0, 1576, 52, 138) = true := by decide +kernel
theorem zk186 : zchkM zm186 = true := by decide +kernel
theorem zw186 : zmw zm186 (1581, 0, 1580, 53, 138) = true := by decide +kernel
theorem zk187 : zchkM zm187 = true := by decide +kernel
theorem zw187 : zmw zm187 (1585, 0, 1584, 54, 138) = true := by decide +kernel
theorem zk188 : zchkM zm188 = true := by decide +kernel
theorem zw188 : zmw zm188 (1589, 0, 1588, 55, 138) = true := by decide +kernel
theorem zk189 : zchkM zm189 = true := by decide +kernel
theorem zw189 : zmw zm189 (1593, 0, 1592, 56, 138) = true := by decide +kernel
theorem zk190 : zchkM zm190 = true := by decide +kernel
theorem zw190 : zmw zm190 (1597, 0, 1596, 57, 138) = true := by decide +kernel
theorem zk191 : zchkM zm191 = true := by decide +kernel
theorem zw191 : zmw zm191 (1601, 0, 1600, 58, 138) = true := by decide +kernel
theorem zk192 : zchkM zm192 = true := by decide +kernel
theorem zw192 : zmw zm192 (1605, 0, 1604, 59, 138) = true := by decide +kernel
theorem zk193 : zchkM zm193 = true := by decide +kernel
theorem zw193 : zmw zm193 (1609, 0, 1608, 60, 138) = true := by decide +kernel
theorem zk194 : zchkM zm194 = true := by decide +kernel
theorem zw194 : zmw zm194 (1613, 0, 1612, 61, 138) = true := by decide +kernel
theorem zk195 : zchkM zm195 = true := by decide +kernel
theorem zw195 : zmw zm195 (1617, 0, 1616, 62, 138) = true := by decide +kernel
theorem zk196 : zchkM zm196 = true := by decide +kernel
theorem zw196 : zmw zm196 (1621, 0, 1620, 63, 138) = true := by decide +kernel
theorem zk197 : zchkM zm197 = true := by decide +kernel
theorem zw197 : zmw zm197 (1625, 0, 1624, 64, 138) = true := by decide +kernel
theorem zk198 : zchkM zm198 = true := by decide +kernel
theorem zw198 : zmw zm198 (1629, 0, 1628, 65, 138) = true := by decide +kernel
theorem zk199 : zchkM zm199 = true := by decide +kernel
theorem zw199 : zmw zm199 (1633, 0, 1632, 66, 138) = true := by decide +kernel
theorem zk200 : zchkM zm200 = true := by decide +kernel
theorem zw200 : zmw zm200 (1637, 0, 1636, 67, 138) = true := by decide +kernel
