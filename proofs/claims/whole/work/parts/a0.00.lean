theorem zk0 : zchkM zm0 = true := by decide +kernel
theorem zw0 : zmw zm0 (236, 2, 235, 0, 128) = true := by decide +kernel
theorem zk1 : zchkM zm1 = true := by decide +kernel
theorem zw1 : zmw zm1 (732, 0, 730, 731, 128) = true := by decide +kernel
theorem zk2 : zchkM zm2 = true := by decide +kernel
theorem zw2 : zmw zm2 (1030, 0, 1028, 1029, 128) = true := by decide +kernel
theorem zk3 : zchkM zm3 = true := by decide +kernel
theorem zw3 : zmw zm3 (1277, 0, 1275, 1276, 128) = true := by decide +kernel
theorem zk4 : zchkM zm4 = true := by decide +kernel
theorem zw4 : zmw zm4 (462, 2, 461, 0, 136) = true := by decide +kernel
theorem zk5 : zchkM zm5 = true := by decide +kernel
theorem zw5 : zmw zm5 (615, 0, 613, 614, 136) = true := by decide +kernel
theorem zk6 : zchkM zm6 = true := by decide +kernel
theorem zw6 : zmw zm6 (619, 0, 618, 1, 136) = true := by decide +kernel
theorem zk7 : zchkM zm7 = true := by decide +kernel
theorem zw7 : zmw zm7 (628, 0, 627, 2, 136) = true := by decide +kernel
theorem zk8 : zchkM zm8 = true := by decide +kernel
theorem zw8 : zmw zm8 (633, 0, 631, 632, 136) = true := by decide +kernel
theorem zk9 : zchkM zm9 = true := by decide +kernel
theorem zw9 : zmw zm9 (656, 0, 655, 3, 136) = true := by decide +kernel
theorem zk10 : zchkM zm10 = true := by decide +kernel
theorem zw10 : zmw zm10 (665, 0, 663, 664, 136) = true := by decide +kernel
theorem zk11 : zchkM zm11 = true := by decide +kernel
theorem zw11 : zmw zm11 (669, 0, 667, 668, 136) = true := by decide +kernel
theorem zk12 : zchkM zm12 = true := by decide +kernel
theorem zw12 : zmw zm12 (712, 0, 711, 6, 136) = true := by decide +kernel
theorem zk13 : zchkM zm13 = true := by decide +kernel
theorem zw13 : zmw zm13 (718, 0, 717, 7, 136) = true := by decide +kernel
theorem zk14 : zchkM zm14 = true := by decide +kernel
theorem zw14 : zmw zm14 (728, 0, 727, 8, 136) = true := by decide +kernel
theorem zk15 : zchkM zm15 = true := by decide +kernel
theorem zw15 : zmw zm15 (165, 2, 164, 0, 127) = true := by decide +kernel
theorem zk16 : zchkM zm16 = true := by decide +kernel
theorem zw16 : zmw zm16 (562, 0, 560, 561, 127) = true := by decide +kernel
theorem zk17 : zchkM zm17 = true := by decide +kernel
theorem zw17 : zmw zm17 (569, 0, 567, 568, 127) = true := by decide +kernel
theorem zk18 : zchkM zm18 = true := by decide +kernel
theorem zw18 : zmw zm18 (573, 0, 571, 572, 127) = true := by decide +kernel
theorem zk19 : zchkM zm19 = true := by decide +kernel
theorem zw19 : zmw zm19 (577, 0, 575, 576, 127) = true := by decide +kernel
