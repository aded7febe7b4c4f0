theorem zk201 : zchkM zm201 = true := by decide +kernel
theorem zw201 : zmw zm201 (1641, 0, 1640, 68, 138) = true := by decide +kernel
theorem zk202 : zchkM zm202 = true := by decide +kernel
theorem zw202 : zmw zm202 (1645, 0, 1644, 69, 138) = true := by decide +kernel
theorem zk203 : zchkM zm203 = true := by decide +kernel
theorem zw203 : zmw zm203 (1649, 0, 1648, 70, 138) = true := by decide +kernel
theorem zk204 : zchkM zm204 = true := by decide +kernel
theorem zw204 : zmw zm204 (1653, 0, 1652, 71, 138) = true := by decide +kernel
theorem zk205 : zchkM zm205 = true := by decide +kernel
theorem zw205 : zmw zm205 (1657, 0, 1656, 72, 138) = true := by decide +kernel
theorem zk206 : zchkM zm206 = true := by decide +kernel
theorem zw206 : zmw zm206 (1661, 0, 1660, 73, 138) = true := by decide +kernel
theorem zk207 : zchkM zm207 = true := by decide +kernel
theorem zw207 : zmw zm207 (1665, 0, 1664, 74, 138) = true := by decide +kernel
theorem zk208 : zchkM zm208 = true := by decide +kernel
theorem zw208 : zmw zm208 (1669, 0, 1667, 1668, 138) = true := by decide +kernel
theorem zk209 : zchkM zm209 = true := by decide +kernel
theorem zw209 : zmw zm209 (1673, 0, 1671, 1672, 138) = true := by decide +kernel
theorem zk210 : zchkM zm210 = true := by decide +kernel
theorem zw210 : zmw zm210 (1677, 0, 1676, 75, 138) = true := by decide +kernel
theorem zk211 : zchkM zm211 = true := by decide +kernel
theorem zw211 : zmw zm211 (1681, 0, 1680, 76, 138) = true := by decide +kernel
theorem zk212 : zchkM zm212 = true := by decide +kernel
theorem zw212 : zmw zm212 (1685, 0, 1684, 77, 138) = true := by decide +kernel
theorem zk213 : zchkM zm213 = true := by decide +kernel
theorem zw213 : zmw zm213 (1689, 0, 1688, 78, 138) = true := by decide +kernel
theorem zk214 : zchkM zm214 = true := by decide +kernel
theorem zw214 : zmw zm214 (1693, 0, 1692, 79, 138) = true := by decide +kernel
theorem zk215 : zchkM zm215 = true := by decide +kernel
theorem zw215 : zmw zm215 (1697, 0, 1696, 80, 138) = true := by decide +kernel
theorem zk216 : zchkM zm216 = true := by decide +kernel
theorem zw216 : zmw zm216 (1701, 0, 1700, 81, 138) = true := by decide +kernel
theorem zk217 : zchkM zm217 = true := by decide +kernel
theorem zw217 : zmw zm217 (1705, 0, 1704, 82, 138) = true := by decide +kernel
theorem zk218 : zchkM zm218 = true := by decide +kernel
theorem zw218 : zmw zm218 (1709, 0, 1708, 83, 138) = true := by decide +kernel
theorem zk219 : zchkM zm219 = true := by decide +kernel
theorem zw219 : zmw zm219 (1713, 0, 1712, 84, 138) = true := by decide +kernel
theorem zk220 : zchkM zm220 = true := by decide +kernel
theorem zw220 : zmw zm220 (1717, 0, 1716, 85, 138) = true := by decide +kernel
