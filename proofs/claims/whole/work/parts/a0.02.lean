theorem zk40 : zchkM zm40 = true := by decide +kernel
theorem zw40 : zmw zm40 (940, 0, 938, 939, 129) = true := by decide +kernel
theorem zk41 : zchkM zm41 = true := by decide +kernel
theorem zw41 : zmw zm41 (956, 0, 954, 955, 129) = true := by decide +kernel
theorem zk42 : zchkM zm42 = true := by decide +kernel
theorem zw42 : zmw zm42 (994, 0, 992, 993, 129) = true := by decide +kernel
theorem zk43 : zchkM zm43 = true := by decide +kernel
theorem zw43 : zmw zm43 (437, 2, 436, 0, 135) = true := by decide +kernel
theorem zk44 : zchkM zm44 = true := by decide +kernel
theorem zw44 : zmw zm44 (551, 0, 549, 550, 135) = true := by decide +kernel
theorem zk45 : zchkM zm45 = true := by decide +kernel
theorem zw45 : zmw zm45 (597, 0, 595, 596, 135) = true := by decide +kernel
theorem zk46 : zchkM zm46 = true := by decide +kernel
theorem zw46 : zmw zm46 (1264, 0, 1262, 1263, 135) = true := by decide +kernel
theorem zk47 : zchkM zm47 = true := by decide +kernel
theorem zw47 : zmw zm47 (394, 2, 393, 0, 134) = true := by decide +kernel
theorem zk48 : zchkM zm48 = true := by decide +kernel
theorem zw48 : zmw zm48 (756, 0, 754, 755, 134) = true := by decide +kernel
theorem zk49 : zchkM zm49 = true := by decide +kernel
theorem zw49 : zmw zm49 (904, 1, 903, 0, 134) = true := by decide +kernel
theorem zk50 : zchkM zm50 = true := by decide +kernel
theorem zw50 : zmw zm50 (908, 0, 907, 13, 134) = true := by decide +kernel
theorem zk51 : zchkM zm51 = true := by decide +kernel
theorem zw51 : zmw zm51 (912, 0, 911, 14, 134) = true := by decide +kernel
theorem zk52 : zchkM zm52 = true := by decide +kernel
theorem zw52 : zmw zm52 (920, 0, 919, 15, 134) = true := by decide +kernel
theorem zk53 : zchkM zm53 = true := by decide +kernel
theorem zw53 : zmw zm53 (924, 0, 923, 16, 134) = true := by decide +kernel
theorem zk54 : zchkM zm54 = true := by decide +kernel
theorem zw54 : zmw zm54 (936, 0, 935, 17, 134) = true := by decide +kernel
theorem zk55 : zchkM zm55 = true := by decide +kernel
theorem zw55 : zmw zm55 (944, 0, 943, 18, 134) = true := by decide +kernel
theorem zk56 : zchkM zm56 = true := by decide +kernel
theorem zw56 : zmw zm56 (948, 0, 947, 19, 134) = true := by decide +kernel
theorem zk57 : zchkM zm57 = true := by decide +kernel
theorem zw57 : zmw zm57 (952, 0, 951, 20, 134) = true := by decide +kernel
theorem zk58 : zchkM zm58 = true := by decide +kernel
theorem zw58 : zmw zm58 (960, 0, 959, 21, 134) = true := by decide +kernel
theorem zk59 : zchkM zm59 = true := by decide +kernel
theorem zw59 : zmw zm59 (964, 0, 963, 22, 134) = true := by decide +kernel
