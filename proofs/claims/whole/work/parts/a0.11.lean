theorem zk221 : zchkM zm221 = true := by decide +kernel
theorem zw221 : zmw zm221 (1721, 0, 1720, 86, 138) = true := by decide +kernel
theorem zk222 : zchkM zm222 = true := by decide +kernel
theorem zw222 : zmw zm222 (1725, 0, 1724, 87, 138) = true := by decide +kernel
theorem zk223 : zchkM zm223 = true := by decide +kernel
theorem zw223 : zmw zm223 (1729, 0, 1728, 88, 138) = true := by decide +kernel
theorem zk224 : zchkM zm224 = true := by decide +kernel
theorem zw224 : zmw zm224 (1733, 0, 1732, 89, 138) = true := by decide +kernel
theorem zk225 : zchkM zm225 = true := by decide +kernel
theorem zw225 : zmw zm225 (1737, 0, 1736, 90, 138) = true := by decide +kernel
theorem zk226 : zchkM zm226 = true := by decide +kernel
theorem zw226 : zmw zm226 (1741, 0, 1740, 91, 138) = true := by decide +kernel
theorem zk227 : zchkM zm227 = true := by decide +kernel
theorem zw227 : zmw zm227 (1745, 0, 1744, 92, 138) = true := by decide +kernel
theorem zk228 : zchkM zm228 = true := by decide +kernel
theorem zw228 : zmw zm228 (1749, 0, 1748, 93, 138) = true := by decide +kernel
theorem zk229 : zchkM zm229 = true := by decide +kernel
theorem zw229 : zmw zm229 (1753, 0, 1752, 94, 138) = true := by decide +kernel
theorem zk230 : zchkM zm230 = true := by decide +kernel
theorem zw230 : zmw zm230 (1757, 0, 1756, 95, 138) = true := by decide +kernel
theorem zk231 : zchkM zm231 = true := by decide +kernel
theorem zw231 : zmw zm231 (1761, 0, 1760, 96, 138) = true := by decide +kernel
theorem zk232 : zchkM zm232 = true := by decide +kernel
theorem zw232 : zmw zm232 (1765, 0, 1764, 97, 138) = true := by decide +kernel
theorem zk233 : zchkM zm233 = true := by decide +kernel
theorem zw233 : zmw zm233 (1769, 0, 1768, 98, 138) = true := by decide +kernel
theorem zk234 : zchkM zm234 = true := by decide +kernel
theorem zw234 : zmw zm234 (1775, 0, 1774, 99, 138) = true := by decide +kernel
theorem zk235 : zchkM zm235 = true := by decide +kernel
theorem zw235 : zmw zm235 (1779, 0, 1778, 100, 138) = true := by decide +kernel
theorem zk236 : zchkM zm236 = true := by decide +kernel
theorem zw236 : zmw zm236 (1783, 0, 1782, 101, 138) = true := by decide +kernel
theorem zk237 : zchkM zm237 = true := by decide +kernel
theorem zw237 : zmw zm237 (1787, 0, 1786, 102, 138) = true := by decide +kernel
theorem zk238 : zchkM zm238 = true := by decide +kernel
theorem zw238 : zmw zm238 (1791, 0, 1790, 103, 138) = true := by decide +kernel
theorem zk239 : zchkM zm239 = true := by decide +kernel
theorem zw239 : zmw zm239 (1795, 0, 1793, 1794, 138) = true := by decide +kernel
theorem zk240 : zchkM zm240 = true := by decide +kernel
theorem zw240 : zmw zm240 (1799, 0, 1798, 104, 138) = true := by decide +kernel
