theorem zk20 : zchkM zm20 = true := by decide +kernel
theorem zw20 : zmw zm20 (585, 0, 583, 584, 127) = true := by decide +kernel
theorem zk21 : zchkM zm21 = true := by decide +kernel
theorem zw21 : zmw zm21 (601, 0, 599, 600, 127) = true := by decide +kernel
theorem zk22 : zchkM zm22 = true := by decide +kernel
theorem zw22 : zmw zm22 (638, 0, 636, 637, 127) = true := by decide +kernel
theorem zk23 : zchkM zm23 = true := by decide +kernel
theorem zw23 : zmw zm23 (642, 0, 640, 641, 127) = true := by decide +kernel
theorem zk24 : zchkM zm24 = true := by decide +kernel
theorem zw24 : zmw zm24 (646, 0, 644, 645, 127) = true := by decide +kernel
theorem zk25 : zchkM zm25 = true := by decide +kernel
theorem zw25 : zmw zm25 (673, 0, 671, 672, 127) = true := by decide +kernel
theorem zk26 : zchkM zm26 = true := by decide +kernel
theorem zw26 : zmw zm26 (680, 0, 679, 4, 127) = true := by decide +kernel
theorem zk27 : zchkM zm27 = true := by decide +kernel
theorem zw27 : zmw zm27 (722, 0, 720, 721, 127) = true := by decide +kernel
theorem zk28 : zchkM zm28 = true := by decide +kernel
theorem zw28 : zmw zm28 (736, 0, 734, 735, 127) = true := by decide +kernel
theorem zk29 : zchkM zm29 = true := by decide +kernel
theorem zw29 : zmw zm29 (1040, 0, 1038, 1039, 127) = true := by decide +kernel
theorem zk30 : zchkM zm30 = true := by decide +kernel
theorem zw30 : zmw zm30 (1044, 0, 1042, 1043, 127) = true := by decide +kernel
theorem zk31 : zchkM zm31 = true := by decide +kernel
theorem zw31 : zmw zm31 (251, 2, 250, 0, 129) = true := by decide +kernel
theorem zk32 : zchkM zm32 = true := by decide +kernel
theorem zw32 : zmw zm32 (692, 0, 690, 691, 129) = true := by decide +kernel
theorem zk33 : zchkM zm33 = true := by decide +kernel
theorem zw33 : zmw zm33 (696, 0, 695, 5, 129) = true := by decide +kernel
theorem zk34 : zchkM zm34 = true := by decide +kernel
theorem zw34 : zmw zm34 (700, 1, 699, 0, 129) = true := by decide +kernel
theorem zk35 : zchkM zm35 = true := by decide +kernel
theorem zw35 : zmw zm35 (703, 1, 702, 0, 129) = true := by decide +kernel
theorem zk36 : zchkM zm36 = true := by decide +kernel
theorem zw36 : zmw zm36 (708, 1, 707, 0, 129) = true := by decide +kernel
theorem zk37 : zchkM zm37 = true := by decide +kernel
theorem zw37 : zmw zm37 (761, 0, 759, 760, 129) = true := by decide +kernel
theorem zk38 : zchkM zm38 = true := by decide +kernel
theorem zw38 : zmw zm38 (916, 0, 914, 915, 129) = true := by decide +kernel
theorem zk39 : zchkM zm39 = true := by decide +kernel
theorem zw39 : zmw zm39 (932, 0, 930, 931, 129) = true := by decide +kernel
