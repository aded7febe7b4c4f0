theorem zk261 : zchkM zm261 = true := by decide +kernel
theorem zw261 : zmw zm261 (1884, 0, 1882, 1883, 138) = true := by decide +kernel
theorem zk262 : zchkM zm262 = true := by decide +kernel
theorem zw262 : zmw zm262 (1888, 0, 1886, 1887, 138) = true := by decide +kernel
theorem zk263 : zchkM zm263 = true := by decide +kernel
theorem zw263 : zmw zm263 (1892, 0, 1891, 114, 138) = true := by decide +kernel
theorem zk264 : zchkM zm264 = true := by decide +kernel
theorem zw264 : zmw zm264 (1896, 0, 1894, 1895, 138) = true := by decide +kernel
theorem zk265 : zchkM zm265 = true := by decide +kernel
theorem zw265 : zmw zm265 (1900, 0, 1899, 115, 138) = true := by decide +kernel
theorem zk266 : zchkM zm266 = true := by decide +kernel
theorem zw266 : zmw zm266 (1904, 0, 1902, 1903, 138) = true := by decide +kernel
theorem zk267 : zchkM zm267 = true := by decide +kernel
theorem zw267 : zmw zm267 (1908, 0, 1906, 1907, 138) = true := by decide +kernel
theorem zk268 : zchkM zm268 = true := by decide +kernel
theorem zw268 : zmw zm268 (1912, 0, 1910, 1911, 138) = true := by decide +kernel
theorem zk269 : zchkM zm269 = true := by decide +kernel
theorem zw269 : zmw zm269 (1916, 0, 1915, 116, 138) = true := by decide +kernel
theorem zk270 : zchkM zm270 = true := by decide +kernel
theorem zw270 : zmw zm270 (1920, 0, 1919, 117, 138) = true := by decide +kernel
theorem zk271 : zchkM zm271 = true := by decide +kernel
theorem zw271 : zmw zm271 (1924, 0, 1923, 118, 138) = true := by decide +kernel
theorem zk272 : zchkM zm272 = true := by decide +kernel
theorem zw272 : zmw zm272 (1928, 0, 1926, 1927, 138) = true := by decide +kernel
theorem zk273 : zchkM zm273 = true := by decide +kernel
theorem zw273 : zmw zm273 (1932, 0, 1930, 1931, 138) = true := by decide +kernel
theorem zk274 : zchkM zm274 = true := by decide +kernel
theorem zw274 : zmw zm274 (1936, 0, 1935, 119, 138) = true := by decide +kernel
theorem zk275 : zchkM zm275 = true := by decide +kernel
theorem zw275 : zmw zm275 (1940, 0, 1938, 1939, 138) = true := by decide +kernel
theorem zk276 : zchkM zm276 = true := by decide +kernel
theorem zw276 : zmw zm276 (1944, 0, 1942, 1943, 138) = true := by decide +kernel
theorem zk277 : zchkM zm277 = true := by decide +kernel
theorem zw277 : zmw zm277 (1948, 0, 1946, 1947, 138) = true := by decide +kernel
theorem zk278 : zchkM zm278 = true := by decide +kernel
theorem zw278 : zmw zm278 (1952, 0, 1951, 120, 138) = true := by decide +kernel
theorem zk279 : zchkM zm279 = true := by decide +kernel
theorem zw279 : zmw zm279 (1956, 0, 1954, 1955, 138) = true := by decide +kernel
theorem zk280 : zchkM zm280 = true := by decide +kernel
theorem zw280 : zmw zm280 (1960, 0, 1959, 121, 138) = true := by decide +kernel
