theorem zk241 : zchkM zm241 = true := by decide +kernel
theorem zw241 : zmw zm241 (1803, 0, 1801, 1802, 138) = true := by decide +kernel
theorem zk242 : zchkM zm242 = true := by decide +kernel
theorem zw242 : zmw zm242 (1807, 0, 1805, 1806, 138) = true := by decide +kernel
theorem zk243 : zchkM zm243 = true := by decide +kernel
theorem zw243 : zmw zm243 (1811, 0, 1809, 1810, 138) = true := by decide +kernel
theorem zk244 : zchkM zm244 = true := by decide +kernel
theorem zw244 : zmw zm244 (1815, 0, 1813, 1814, 138) = true := by decide +kernel
theorem zk245 : zchkM zm245 = true := by decide +kernel
theorem zw245 : zmw zm245 (1819, 0, 1818, 105, 138) = true := by decide +kernel
theorem zk246 : zchkM zm246 = true := by decide +kernel
theorem zw246 : zmw zm246 (1823, 0, 1822, 106, 138) = true := by decide +kernel
theorem zk247 : zchkM zm247 = true := by decide +kernel
theorem zw247 : zmw zm247 (1827, 0, 1826, 107, 138) = true := by decide +kernel
theorem zk248 : zchkM zm248 = true := by decide +kernel
theorem zw248 : zmw zm248 (1831, 0, 1829, 1830, 138) = true := by decide +kernel
theorem zk249 : zchkM zm249 = true := by decide +kernel
theorem zw249 : zmw zm249 (1835, 0, 1833, 1834, 138) = true := by decide +kernel
theorem zk250 : zchkM zm250 = true := by decide +kernel
theorem zw250 : zmw zm250 (1839, 0, 1838, 108, 138) = true := by decide +kernel
theorem zk251 : zchkM zm251 = true := by decide +kernel
theorem zw251 : zmw zm251 (1844, 0, 1842, 1843, 138) = true := by decide +kernel
theorem zk252 : zchkM zm252 = true := by decide +kernel
theorem zw252 : zmw zm252 (1848, 0, 1846, 1847, 138) = true := by decide +kernel
theorem zk253 : zchkM zm253 = true := by decide +kernel
theorem zw253 : zmw zm253 (1852, 0, 1851, 109, 138) = true := by decide +kernel
theorem zk254 : zchkM zm254 = true := by decide +kernel
theorem zw254 : zmw zm254 (1856, 0, 1855, 110, 138) = true := by decide +kernel
theorem zk255 : zchkM zm255 = true := by decide +kernel
theorem zw255 : zmw zm255 (1860, 0, 1858, 1859, 138) = true := by decide +kernel
theorem zk256 : zchkM zm256 = true := by decide +kernel
theorem zw256 : zmw zm256 (1864, 0, 1863, 111, 138) = true := by decide +kernel
theorem zk257 : zchkM zm257 = true := by decide +kernel
theorem zw257 : zmw zm257 (1868, 0, 1867, 112, 138) = true := by decide +kernel
theorem zk258 : zchkM zm258 = true := by decide +kernel
theorem zw258 : zmw zm258 (1872, 0, 1870, 1871, 138) = true := by decide +kernel
theorem zk259 : zchkM zm259 = true := by decide +kernel
theorem zw259 : zmw zm259 (1876, 0, 1874, 1875, 138) = true := by decide +kernel
theorem zk260 : zchkM zm260 = true := by decide +kernel
theorem zw260 : zmw zm260 (1880, 0, 1879, 113, 138) = true := by decide +kernel
