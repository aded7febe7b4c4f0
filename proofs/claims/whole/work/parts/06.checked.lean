theorem zk0 : zchkM zm0 = true := by decide +kernel
theorem zw0 : zmw zm0 (236, 2, 235, 0, 128) = true := by decide +kernel
theorem zk1 : zchkM zm1 = true := by decide +kernel
theorem zw1 : zmw zm1 (732, 0, 730, 731, 128) = true := by decide +kernel
theorem zk2 : zchkM zm2 = true := by decide +kernel
theorem zw2 : zmw zm2 (1030, 0, 1028, 1029, 128) = true := by decide +kernel
theorem zk3 : zchkM zm3 = true := by decide +kernel
theorem zw3 : zmw zm3 (1277, 0, 1275, 1276, 128) = true := by decide +kernel
theorem zk4 : zchkM zm4 = true := by decide +kernel
theorem zw4 : zmw zm4 (462, 2, 461, 0, 136) = true := by decide +kernel
theorem zk5 : zchkM zm5 = true := by decide +kernel
theorem zw5 : zmw zm5 (615, 0, 613, 614, 136) = true := by decide +kernel
theorem zk6 : zchkM zm6 = true := by decide +kernel
theorem zw6 : zmw zm6 (619, 0, 618, 1, 136) = true := by decide +kernel
theorem zk7 : zchkM zm7 = true := by decide +kernel
theorem zw7 : zmw zm7 (628, 0, 627, 2, 136) = true := by decide +kernel
theorem zk8 : zchkM zm8 = true := by decide +kernel
theorem zw8 : zmw zm8 (633, 0, 631, 632, 136) = true := by decide +kernel
theorem zk9 : zchkM zm9 = true := by decide +kernel
theorem zw9 : zmw zm9 (656, 0, 655, 3, 136) = true := by decide +kernel
theorem zk10 : zchkM zm10 = true := by decide +kernel
theorem zw10 : zmw zm10 (665, 0, 663, 664, 136) = true := by decide +kernel
theorem zk11 : zchkM zm11 = true := by decide +kernel
theorem zw11 : zmw zm11 (669, 0, 667, 668, 136) = true := by decide +kernel
theorem zk12 : zchkM zm12 = true := by decide +kernel
theorem zw12 : zmw zm12 (712, 0, 711, 6, 136) = true := by decide +kernel
theorem zk13 : zchkM zm13 = true := by decide +kernel
theorem zw13 : zmw zm13 (718, 0, 717, 7, 136) = true := by decide +kernel
theorem zk14 : zchkM zm14 = true := by decide +kernel
theorem zw14 : zmw zm14 (728, 0, 727, 8, 136) = true := by decide +kernel
theorem zk15 : zchkM zm15 = true := by decide +kernel
theorem zw15 : zmw zm15 (165, 2, 164, 0, 127) = true := by decide +kernel
theorem zk16 : zchkM zm16 = true := by decide +kernel
theorem zw16 : zmw zm16 (562, 0, 560, 561, 127) = true := by decide +kernel
theorem zk17 : zchkM zm17 = true := by decide +kernel
theorem zw17 : zmw zm17 (569, 0, 567, 568, 127) = true := by decide +kernel
theorem zk18 : zchkM zm18 = true := by decide +kernel
theorem zw18 : zmw zm18 (573, 0, 571, 572, 127) = true := by decide +kernel
theorem zk19 : zchkM zm19 = true := by decide +kernel
theorem zw19 : zmw zm19 (577, 0, 575, 576, 127) = true := by decide +kernel
theorem zk20 : zchkM zm20 = true := by decide +kernel
theorem zw20 : zmw zm20 (585, 0, 583, 584, 127) = true := by decide +kernel
theorem zk21 : zchkM zm21 = true := by decide +kernel
theorem zw21 : zmw zm21 (601, 0, 599, 600, 127) = true := by decide +kernel
theorem zk22 : zchkM zm22 = true := by decide +kernel
theorem zw22 : zmw zm22 (638, 0, 636, 637, 127) = true := by decide +kernel
theorem zk23 : zchkM zm23 = true := by decide +kernel
theorem zw23 : zmw zm23 (642, 0, 640, 641, 127) = true := by decide +kernel
theorem zk24 : zchkM zm24 = true := by decide +kernel
theorem zw24 : zmw zm24 (646, 0, 644, 645, 127) = true := by decide +kernel
theorem zk25 : zchkM zm25 = true := by decide +kernel
theorem zw25 : zmw zm25 (673, 0, 671, 672, 127) = true := by decide +kernel
theorem zk26 : zchkM zm26 = true := by decide +kernel
theorem zw26 : zmw zm26 (680, 0, 679, 4, 127) = true := by decide +kernel
theorem zk27 : zchkM zm27 = true := by decide +kernel
theorem zw27 : zmw zm27 (722, 0, 720, 721, 127) = true := by decide +kernel
theorem zk28 : zchkM zm28 = true := by decide +kernel
theorem zw28 : zmw zm28 (736, 0, 734, 735, 127) = true := by decide +kernel
theorem zk29 : zchkM zm29 = true := by decide +kernel
theorem zw29 : zmw zm29 (1040, 0, 1038, 1039, 127) = true := by decide +kernel
theorem zk30 : zchkM zm30 = true := by decide +kernel
theorem zw30 : zmw zm30 (1044, 0, 1042, 1043, 127) = true := by decide +kernel
theorem zk31 : zchkM zm31 = true := by decide +kernel
theorem zw31 : zmw zm31 (251, 2, 250, 0, 129) = true := by decide +kernel
theorem zk32 : zchkM zm32 = true := by decide +kernel
theorem zw32 : zmw zm32 (692, 0, 690, 691, 129) = true := by decide +kernel
theorem zk33 : zchkM zm33 = true := by decide +kernel
theorem zw33 : zmw zm33 (696, 0, 695, 5, 129) = true := by decide +kernel
theorem zk34 : zchkM zm34 = true := by decide +kernel
theorem zw34 : zmw zm34 (700, 1, 699, 0, 129) = true := by decide +kernel
theorem zk35 : zchkM zm35 = true := by decide +kernel
theorem zw35 : zmw zm35 (703, 1, 702, 0, 129) = true := by decide +kernel
theorem zk36 : zchkM zm36 = true := by decide +kernel
theorem zw36 : zmw zm36 (708, 1, 707, 0, 129) = true := by decide +kernel
theorem zk37 : zchkM zm37 = true := by decide +kernel
theorem zw37 : zmw zm37 (761, 0, 759, 760, 129) = true := by decide +kernel
theorem zk38 : zchkM zm38 = true := by decide +kernel
theorem zw38 : zmw zm38 (916, 0, 914, 915, 129) = true := by decide +kernel
theorem zk39 : zchkM zm39 = true := by decide +kernel
theorem zw39 : zmw zm39 (932, 0, 930, 931, 129) = true := by decide +kernel
theorem zk40 : zchkM zm40 = true := by decide +kernel
theorem zw40 : zmw zm40 (940, 0, 938, 939, 129) = true := by decide +kernel
theorem zk41 : zchkM zm41 = true := by decide +kernel
theorem zw41 : zmw zm41 (956, 0, 954, 955, 129) = true := by decide +kernel
theorem zk42 : zchkM zm42 = true := by decide +kernel
theorem zw42 : zmw zm42 (994, 0, 992, 993, 129) = true := by decide +kernel
theorem zk43 : zchkM zm43 = true := by decide +kernel
theorem zw43 : zmw zm43 (437, 2, 436, 0, 135) = true := by decide +kernel
theorem zk44 : zchkM zm44 = true := by decide +kernel
theorem zw44 : zmw zm44 (551, 0, 549, 550, 135) = true := by decide +kernel
theorem zk45 : zchkM zm45 = true := by decide +kernel
theorem zw45 : zmw zm45 (597, 0, 595, 596, 135) = true := by decide +kernel
theorem zk46 : zchkM zm46 = true := by decide +kernel
theorem zw46 : zmw zm46 (1264, 0, 1262, 1263, 135) = true := by decide +kernel
theorem zk47 : zchkM zm47 = true := by decide +kernel
theorem zw47 : zmw zm47 (394, 2, 393, 0, 134) = true := by decide +kernel
theorem zk48 : zchkM zm48 = true := by decide +kernel
theorem zw48 : zmw zm48 (756, 0, 754, 755, 134) = true := by decide +kernel
theorem zk49 : zchkM zm49 = true := by decide +kernel
theorem zw49 : zmw zm49 (904, 1, 903, 0, 134) = true := by decide +kernel
theorem zk50 : zchkM zm50 = true := by decide +kernel
theorem zw50 : zmw zm50 (908, 0, 907, 13, 134) = true := by decide +kernel
theorem zk51 : zchkM zm51 = true := by decide +kernel
theorem zw51 : zmw zm51 (912, 0, 911, 14, 134) = true := by decide +kernel
theorem zk52 : zchkM zm52 = true := by decide +kernel
theorem zw52 : zmw zm52 (920, 0, 919, 15, 134) = true := by decide +kernel
theorem zk53 : zchkM zm53 = true := by decide +kernel
theorem zw53 : zmw zm53 (924, 0, 923, 16, 134) = true := by decide +kernel
theorem zk54 : zchkM zm54 = true := by decide +kernel
theorem zw54 : zmw zm54 (936, 0, 935, 17, 134) = true := by decide +kernel
theorem zk55 : zchkM zm55 = true := by decide +kernel
theorem zw55 : zmw zm55 (944, 0, 943, 18, 134) = true := by decide +kernel
theorem zk56 : zchkM zm56 = true := by decide +kernel
theorem zw56 : zmw zm56 (948, 0, 947, 19, 134) = true := by decide +kernel
theorem zk57 : zchkM zm57 = true := by decide +kernel
theorem zw57 : zmw zm57 (952, 0, 951, 20, 134) = true := by decide +kernel
theorem zk58 : zchkM zm58 = true := by decide +kernel
theorem zw58 : zmw zm58 (960, 0, 959, 21, 134) = true := by decide +kernel
theorem zk59 : zchkM zm59 = true := by decide +kernel
theorem zw59 : zmw zm59 (964, 0, 963, 22, 134) = true := by decide +kernel
theorem zk60 : zchkM zm60 = true := by decide +kernel
theorem zw60 : zmw zm60 (968, 0, 967, 23, 134) = true := by decide +kernel
theorem zk61 : zchkM zm61 = true := by decide +kernel
theorem zw61 : zmw zm61 (972, 0, 971, 24, 134) = true := by decide +kernel
theorem zk62 : zchkM zm62 = true := by decide +kernel
theorem zw62 : zmw zm62 (981, 0, 980, 25, 134) = true := by decide +kernel
theorem zk63 : zchkM zm63 = true := by decide +kernel
theorem zw63 : zmw zm63 (985, 0, 984, 26, 134) = true := by decide +kernel
theorem zk64 : zchkM zm64 = true := by decide +kernel
theorem zw64 : zmw zm64 (989, 0, 988, 27, 134) = true := by decide +kernel
theorem zk65 : zchkM zm65 = true := by decide +kernel
theorem zw65 : zmw zm65 (298, 2, 297, 0, 131) = true := by decide +kernel
theorem zk66 : zchkM zm66 = true := by decide +kernel
theorem zw66 : zmw zm66 (1124, 0, 1122, 1123, 131) = true := by decide +kernel
theorem zk67 : zchkM zm67 = true := by decide +kernel
theorem zw67 : zmw zm67 (1128, 0, 1126, 1127, 131) = true := by decide +kernel
theorem zk68 : zchkM zm68 = true := by decide +kernel
theorem zw68 : zmw zm68 (1142, 0, 1140, 1141, 131) = true := by decide +kernel
theorem zk69 : zchkM zm69 = true := by decide +kernel
theorem zw69 : zmw zm69 (1285, 0, 1283, 1284, 131) = true := by decide +kernel
theorem zk70 : zchkM zm70 = true := by decide +kernel
theorem zw70 : zmw zm70 (283, 2, 282, 0, 130) = true := by decide +kernel
theorem zk71 : zchkM zm71 = true := by decide +kernel
theorem zw71 : zmw zm71 (623, 0, 621, 622, 130) = true := by decide +kernel
theorem zk72 : zchkM zm72 = true := by decide +kernel
theorem zw72 : zmw zm72 (660, 0, 658, 659, 130) = true := by decide +kernel
theorem zk73 : zchkM zm73 = true := by decide +kernel
theorem zw73 : zmw zm73 (765, 0, 763, 764, 130) = true := by decide +kernel
theorem zk74 : zchkM zm74 = true := by decide +kernel
theorem zw74 : zmw zm74 (976, 0, 974, 975, 130) = true := by decide +kernel
theorem zk75 : zchkM zm75 = true := by decide +kernel
theorem zw75 : zmw zm75 (999, 0, 997, 998, 130) = true := by decide +kernel
theorem zk76 : zchkM zm76 = true := by decide +kernel
theorem zw76 : zmw zm76 (365, 2, 364, 0, 133) = true := by decide +kernel
theorem zk77 : zchkM zm77 = true := by decide +kernel
theorem zw77 : zmw zm77 (744, 0, 742, 743, 133) = true := by decide +kernel
theorem zk78 : zchkM zm78 = true := by decide +kernel
theorem zw78 : zmw zm78 (769, 0, 767, 768, 133) = true := by decide +kernel
theorem zk79 : zchkM zm79 = true := by decide +kernel
theorem zw79 : zmw zm79 (773, 0, 772, 9, 133) = true := by decide +kernel
theorem zk80 : zchkM zm80 = true := by decide +kernel
theorem zw80 : zmw zm80 (776, 1, 775, 0, 133) = true := by decide +kernel
theorem zk81 : zchkM zm81 = true := by decide +kernel
theorem zw81 : zmw zm81 (780, 1, 779, 0, 133) = true := by decide +kernel
theorem zk82 : zchkM zm82 = true := by decide +kernel
theorem zw82 : zmw zm82 (784, 0, 783, 10, 133) = true := by decide +kernel
theorem zk83 : zchkM zm83 = true := by decide +kernel
theorem zw83 : zmw zm83 (788, 0, 787, 11, 133) = true := by decide +kernel
theorem zk84 : zchkM zm84 = true := by decide +kernel
theorem zw84 : zmw zm84 (841, 0, 840, 12, 133) = true := by decide +kernel
theorem zk85 : zchkM zm85 = true := by decide +kernel
theorem zw85 : zmw zm85 (901, 0, 899, 900, 133) = true := by decide +kernel
theorem zk86 : zchkM zm86 = true := by decide +kernel
theorem zw86 : zmw zm86 (928, 0, 926, 927, 133) = true := by decide +kernel
theorem zk87 : zchkM zm87 = true := by decide +kernel
theorem zw87 : zmw zm87 (486, 2, 485, 0, 137) = true := by decide +kernel
theorem zk88 : zchkM zm88 = true := by decide +kernel
theorem zw88 : zmw zm88 (1060, 0, 1058, 1059, 137) = true := by decide +kernel
theorem zk89 : zchkM zm89 = true := by decide +kernel
theorem zw89 : zmw zm89 (1065, 0, 1064, 30, 137) = true := by decide +kernel
theorem zk90 : zchkM zm90 = true := by decide +kernel
theorem zw90 : zmw zm90 (1069, 0, 1067, 1068, 137) = true := by decide +kernel
theorem zk91 : zchkM zm91 = true := by decide +kernel
theorem zw91 : zmw zm91 (1073, 0, 1071, 1072, 137) = true := by decide +kernel
theorem zk92 : zchkM zm92 = true := by decide +kernel
theorem zw92 : zmw zm92 (1086, 0, 1084, 1085, 137) = true := by decide +kernel
theorem zk93 : zchkM zm93 = true := by decide +kernel
theorem zw93 : zmw zm93 (1090, 0, 1089, 31, 137) = true := by decide +kernel
theorem zk94 : zchkM zm94 = true := by decide +kernel
theorem zw94 : zmw zm94 (1094, 0, 1093, 32, 137) = true := by decide +kernel
theorem zk95 : zchkM zm95 = true := by decide +kernel
theorem zw95 : zmw zm95 (1098, 0, 1097, 33, 137) = true := by decide +kernel
theorem zk96 : zchkM zm96 = true := by decide +kernel
theorem zw96 : zmw zm96 (1101, 1, 1100, 0, 137) = true := by decide +kernel
theorem zk97 : zchkM zm97 = true := by decide +kernel
theorem zw97 : zmw zm97 (1108, 1, 1107, 0, 137) = true := by decide +kernel
theorem zk98 : zchkM zm98 = true := by decide +kernel
theorem zw98 : zmw zm98 (1111, 1, 1110, 0, 137) = true := by decide +kernel
theorem zk99 : zchkM zm99 = true := by decide +kernel
theorem zw99 : zmw zm99 (1115, 1, 1114, 0, 137) = true := by decide +kernel
theorem zk100 : zchkM zm100 = true := by decide +kernel
theorem zw100 : zmw zm100 (1135, 1, 1134, 0, 137) = true := by decide +kernel
theorem zk101 : zchkM zm101 = true := by decide +kernel
theorem zw101 : zmw zm101 (1138, 1, 1137, 0, 137) = true := by decide +kernel
theorem zk102 : zchkM zm102 = true := by decide +kernel
theorem zw102 : zmw zm102 (1157, 1, 1156, 0, 137) = true := by decide +kernel
theorem zk103 : zchkM zm103 = true := by decide +kernel
theorem zw103 : zmw zm103 (1160, 1, 1159, 0, 137) = true := by decide +kernel
theorem zk104 : zchkM zm104 = true := by decide +kernel
theorem zw104 : zmw zm104 (1170, 1, 1169, 0, 137) = true := by decide +kernel
theorem zk105 : zchkM zm105 = true := by decide +kernel
theorem zw105 : zmw zm105 (1173, 1, 1172, 0, 137) = true := by decide +kernel
theorem zk106 : zchkM zm106 = true := by decide +kernel
theorem zw106 : zmw zm106 (1181, 0, 1179, 1180, 137) = true := by decide +kernel
theorem zk107 : zchkM zm107 = true := by decide +kernel
theorem zw107 : zmw zm107 (1185, 0, 1183, 1184, 137) = true := by decide +kernel
theorem zk108 : zchkM zm108 = true := by decide +kernel
theorem zw108 : zmw zm108 (1189, 0, 1187, 1188, 137) = true := by decide +kernel
theorem zk109 : zchkM zm109 = true := by decide +kernel
theorem zw109 : zmw zm109 (1201, 0, 1199, 1200, 137) = true := by decide +kernel
theorem zk110 : zchkM zm110 = true := by decide +kernel
theorem zw110 : zmw zm110 (1205, 0, 1204, 34, 137) = true := by decide +kernel
theorem zk111 : zchkM zm111 = true := by decide +kernel
theorem zw111 : zmw zm111 (1218, 0, 1216, 1217, 137) = true := by decide +kernel
theorem zk112 : zchkM zm112 = true := by decide +kernel
theorem zw112 : zmw zm112 (1223, 0, 1222, 35, 137) = true := by decide +kernel
theorem zk113 : zchkM zm113 = true := by decide +kernel
theorem zw113 : zmw zm113 (1231, 0, 1229, 1230, 137) = true := by decide +kernel
theorem zk114 : zchkM zm114 = true := by decide +kernel
theorem zw114 : zmw zm114 (1235, 0, 1233, 1234, 137) = true := by decide +kernel
theorem zk115 : zchkM zm115 = true := by decide +kernel
theorem zw115 : zmw zm115 (1242, 1, 1241, 0, 137) = true := by decide +kernel
theorem zk116 : zchkM zm116 = true := by decide +kernel
theorem zw116 : zmw zm116 (1250, 1, 1249, 0, 137) = true := by decide +kernel
theorem zk117 : zchkM zm117 = true := by decide +kernel
theorem zw117 : zmw zm117 (1253, 1, 1252, 0, 137) = true := by decide +kernel
theorem zk118 : zchkM zm118 = true := by decide +kernel
theorem zw118 : zmw zm118 (1256, 1, 1255, 0, 137) = true := by decide +kernel
theorem zk119 : zchkM zm119 = true := by decide +kernel
theorem zw119 : zmw zm119 (159, 2, 158, 0, 126) = true := by decide +kernel
theorem zk120 : zchkM zm120 = true := by decide +kernel
theorem zw120 : zmw zm120 (1272, 0, 1270, 1271, 126) = true := by decide +kernel
theorem zk121 : zchkM zm121 = true := by decide +kernel
theorem zw121 : zmw zm121 (151, 2, 150, 0, 125) = true := by decide +kernel
theorem zk122 : zchkM zm122 = true := by decide +kernel
theorem zw122 : zmw zm122 (547, 0, 545, 546, 125) = true := by decide +kernel
theorem zk123 : zchkM zm123 = true := by decide +kernel
theorem zw123 : zmw zm123 (555, 0, 553, 554, 125) = true := by decide +kernel
theorem zk124 : zchkM zm124 = true := by decide +kernel
theorem zw124 : zmw zm124 (558, 1, 557, 0, 125) = true := by decide +kernel
theorem zk125 : zchkM zm125 = true := by decide +kernel
theorem zw125 : zmw zm125 (565, 1, 564, 0, 125) = true := by decide +kernel
theorem zk126 : zchkM zm126 = true := by decide +kernel
theorem zw126 : zmw zm126 (581, 0, 579, 580, 125) = true := by decide +kernel
theorem zk127 : zchkM zm127 = true := by decide +kernel
theorem zw127 : zmw zm127 (589, 0, 587, 588, 125) = true := by decide +kernel
theorem zk128 : zchkM zm128 = true := by decide +kernel
theorem zw128 : zmw zm128 (593, 0, 592, 0, 125) = true := by decide +kernel
theorem zk129 : zchkM zm129 = true := by decide +kernel
theorem zw129 : zmw zm129 (611, 0, 609, 610, 125) = true := by decide +kernel
theorem zk130 : zchkM zm130 = true := by decide +kernel
theorem zw130 : zmw zm130 (740, 0, 738, 739, 125) = true := by decide +kernel
theorem zk131 : zchkM zm131 = true := by decide +kernel
theorem zw131 : zmw zm131 (748, 0, 746, 747, 125) = true := by decide +kernel
theorem zk132 : zchkM zm132 = true := by decide +kernel
theorem zw132 : zmw zm132 (752, 0, 750, 751, 125) = true := by decide +kernel
theorem zk133 : zchkM zm133 = true := by decide +kernel
theorem zw133 : zmw zm133 (1004, 0, 1002, 1003, 125) = true := by decide +kernel
theorem zk134 : zchkM zm134 = true := by decide +kernel
theorem zw134 : zmw zm134 (1008, 0, 1006, 1007, 125) = true := by decide +kernel
theorem zk135 : zchkM zm135 = true := by decide +kernel
theorem zw135 : zmw zm135 (1012, 0, 1011, 28, 125) = true := by decide +kernel
theorem zk136 : zchkM zm136 = true := by decide +kernel
theorem zw136 : zmw zm136 (1019, 0, 1017, 1018, 125) = true := by decide +kernel
theorem zk137 : zchkM zm137 = true := by decide +kernel
theorem zw137 : zmw zm137 (1026, 0, 1024, 1025, 125) = true := by decide +kernel
theorem zk138 : zchkM zm138 = true := by decide +kernel
theorem zw138 : zmw zm138 (1034, 0, 1032, 1033, 125) = true := by decide +kernel
theorem zk139 : zchkM zm139 = true := by decide +kernel
theorem zw139 : zmw zm139 (1048, 0, 1046, 1047, 125) = true := by decide +kernel
theorem zk140 : zchkM zm140 = true := by decide +kernel
theorem zw140 : zmw zm140 (1052, 0, 1050, 1051, 125) = true := by decide +kernel
theorem zk141 : zchkM zm141 = true := by decide +kernel
theorem zw141 : zmw zm141 (1056, 0, 1055, 29, 125) = true := by decide +kernel
theorem zk142 : zchkM zm142 = true := by decide +kernel
theorem zw142 : zmw zm142 (1078, 0, 1076, 1077, 125) = true := by decide +kernel
theorem zk143 : zchkM zm143 = true := by decide +kernel
theorem zw143 : zmw zm143 (1082, 0, 1080, 1081, 125) = true := by decide +kernel
theorem zk144 : zchkM zm144 = true := by decide +kernel
theorem zw144 : zmw zm144 (1105, 0, 1103, 1104, 125) = true := by decide +kernel
theorem zk145 : zchkM zm145 = true := by decide +kernel
theorem zw145 : zmw zm145 (1120, 0, 1118, 1119, 125) = true := by decide +kernel
theorem zk146 : zchkM zm146 = true := by decide +kernel
theorem zw146 : zmw zm146 (1132, 0, 1130, 1131, 125) = true := by decide +kernel
theorem zk147 : zchkM zm147 = true := by decide +kernel
theorem zw147 : zmw zm147 (1150, 0, 1148, 1149, 125) = true := by decide +kernel
theorem zk148 : zchkM zm148 = true := by decide +kernel
theorem zw148 : zmw zm148 (1154, 0, 1152, 1153, 125) = true := by decide +kernel
theorem zk149 : zchkM zm149 = true := by decide +kernel
theorem zw149 : zmw zm149 (1167, 0, 1165, 1166, 125) = true := by decide +kernel
theorem zk150 : zchkM zm150 = true := by decide +kernel
theorem zw150 : zmw zm150 (1177, 0, 1175, 1176, 125) = true := by decide +kernel
theorem zk151 : zchkM zm151 = true := by decide +kernel
theorem zw151 : zmw zm151 (1193, 0, 1191, 1192, 125) = true := by decide +kernel
theorem zk152 : zchkM zm152 = true := by decide +kernel
theorem zw152 : zmw zm152 (1197, 0, 1195, 1196, 125) = true := by decide +kernel
theorem zk153 : zchkM zm153 = true := by decide +kernel
theorem zw153 : zmw zm153 (1210, 0, 1208, 1209, 125) = true := by decide +kernel
theorem zk154 : zchkM zm154 = true := by decide +kernel
theorem zw154 : zmw zm154 (1214, 0, 1212, 1213, 125) = true := by decide +kernel
theorem zk155 : zchkM zm155 = true := by decide +kernel
theorem zw155 : zmw zm155 (1227, 0, 1225, 1226, 125) = true := by decide +kernel
theorem zk156 : zchkM zm156 = true := by decide +kernel
theorem zw156 : zmw zm156 (1239, 0, 1237, 1238, 125) = true := by decide +kernel
theorem zk157 : zchkM zm157 = true := by decide +kernel
theorem zw157 : zmw zm157 (1246, 0, 1244, 1245, 125) = true := by decide +kernel
theorem zk158 : zchkM zm158 = true := by decide +kernel
theorem zw158 : zmw zm158 (1260, 0, 1258, 1259, 125) = true := by decide +kernel
theorem zk159 : zchkM zm159 = true := by decide +kernel
theorem zw159 : zmw zm159 (1268, 0, 1266, 1267, 125) = true := by decide +kernel
theorem zk160 : zchkM zm160 = true := by decide +kernel
theorem zw160 : zmw zm160 (1291, 0, 1289, 1290, 125) = true := by decide +kernel
theorem zk161 : zchkM zm161 = true := by decide +kernel
theorem zw161 : zmw zm161 (1299, 2, 1298, 0, 138) = true := by decide +kernel
theorem zk162 : zchkM zm162 = true := by decide +kernel
theorem zw162 : zmw zm162 (1485, 0, 1483, 1484, 138) = true := by decide +kernel
theorem zk163 : zchkM zm163 = true := by decide +kernel
theorem zw163 : zmw zm163 (1489, 0, 1487, 1488, 138) = true := by decide +kernel
theorem zk164 : zchkM zm164 = true := by decide +kernel
theorem zw164 : zmw zm164 (1493, 0, 1491, 1492, 138) = true := by decide +kernel
theorem zk165 : zchkM zm165 = true := by decide +kernel
theorem zw165 : zmw zm165 (1497, 0, 1496, 36, 138) = true := by decide +kernel
theorem zk166 : zchkM zm166 = true := by decide +kernel
theorem zw166 : zmw zm166 (1501, 0, 1500, 37, 138) = true := by decide +kernel
theorem zk167 : zchkM zm167 = true := by decide +kernel
theorem zw167 : zmw zm167 (1505, 0, 1504, 38, 138) = true := by decide +kernel
theorem zk168 : zchkM zm168 = true := by decide +kernel
theorem zw168 : zmw zm168 (1509, 0, 1507, 1508, 138) = true := by decide +kernel
theorem zk169 : zchkM zm169 = true := by decide +kernel
theorem zw169 : zmw zm169 (1513, 0, 1512, 39, 138) = true := by decide +kernel
theorem zk170 : zchkM zm170 = true := by decide +kernel
theorem zw170 : zmw zm170 (1517, 0, 1515, 1516, 138) = true := by decide +kernel
theorem zk171 : zchkM zm171 = true := by decide +kernel
theorem zw171 : zmw zm171 (1521, 0, 1520, 40, 138) = true := by decide +kernel
theorem zk172 : zchkM zm172 = true := by decide +kernel
theorem zw172 : zmw zm172 (1525, 0, 1523, 1524, 138) = true := by decide +kernel
theorem zk173 : zchkM zm173 = true := by decide +kernel
theorem zw173 : zmw zm173 (1529, 0, 1527, 1528, 138) = true := by decide +kernel
theorem zk174 : zchkM zm174 = true := by decide +kernel
theorem zw174 : zmw zm174 (1533, 0, 1532, 41, 138) = true := by decide +kernel
theorem zk175 : zchkM zm175 = true := by decide +kernel
theorem zw175 : zmw zm175 (1537, 0, 1536, 42, 138) = true := by decide +kernel
theorem zk176 : zchkM zm176 = true := by decide +kernel
theorem zw176 : zmw zm176 (1541, 0, 1540, 43, 138) = true := by decide +kernel
theorem zk177 : zchkM zm177 = true := by decide +kernel
theorem zw177 : zmw zm177 (1545, 0, 1544, 44, 138) = true := by decide +kernel
theorem zk178 : zchkM zm178 = true := by decide +kernel
theorem zw178 : zmw zm178 (1549, 0, 1548, 45, 138) = true := by decide +kernel
theorem zk179 : zchkM zm179 = true := by decide +kernel
theorem zw179 : zmw zm179 (1553, 0, 1552, 46, 138) = true := by decide +kernel
theorem zk180 : zchkM zm180 = true := by decide +kernel
theorem zw180 : zmw zm180 (1557, 0, 1556, 47, 138) = true := by decide +kernel
theorem zk181 : zchkM zm181 = true := by decide +kernel
theorem zw181 : zmw zm181 (1561, 0, 1560, 48, 138) = true := by decide +kernel
theorem zk182 : zchkM zm182 = true := by decide +kernel
theorem zw182 : zmw zm182 (1565, 0, 1564, 49, 138) = true := by decide +kernel
theorem zk183 : zchkM zm183 = true := by decide +kernel
theorem zw183 : zmw zm183 (1569, 0, 1568, 50, 138) = true := by decide +kernel
theorem zk184 : zchkM zm184 = true := by decide +kernel
theorem zw184 : zmw zm184 (1573, 0, 1572, 51, 138) = true := by decide +kernel
theorem zk185 : zchkM zm185 = true := by decide +kernel
theorem zw185 : zmw zm185 (1577, 0, 1576, 52, 138) = true := by decide +kernel
theorem zk186 : zchkM zm186 = true := by decide +kernel
theorem zw186 : zmw zm186 (1581, 0, 1580, 53, 138) = true := by decide +kernel
theorem zk187 : zchkM zm187 = true := by decide +kernel
theorem zw187 : zmw zm187 (1585, 0, 1584, 54, 138) = true := by decide +kernel
theorem zk188 : zchkM zm188 = true := by decide +kernel
theorem zw188 : zmw zm188 (1589, 0, 1588, 55, 138) = true := by decide +kernel
theorem zk189 : zchkM zm189 = true := by decide +kernel
theorem zw189 : zmw zm189 (1593, 0, 1592, 56, 138) = true := by decide +kernel
theorem zk190 : zchkM zm190 = true := by decide +kernel
theorem zw190 : zmw zm190 (1597, 0, 1596, 57, 138) = true := by decide +kernel
theorem zk191 : zchkM zm191 = true := by decide +kernel
theorem zw191 : zmw zm191 (1601, 0, 1600, 58, 138) = true := by decide +kernel
theorem zk192 : zchkM zm192 = true := by decide +kernel
theorem zw192 : zmw zm192 (1605, 0, 1604, 59, 138) = true := by decide +kernel
theorem zk193 : zchkM zm193 = true := by decide +kernel
theorem zw193 : zmw zm193 (1609, 0, 1608, 60, 138) = true := by decide +kernel
theorem zk194 : zchkM zm194 = true := by decide +kernel
theorem zw194 : zmw zm194 (1613, 0, 1612, 61, 138) = true := by decide +kernel
theorem zk195 : zchkM zm195 = true := by decide +kernel
theorem zw195 : zmw zm195 (1617, 0, 1616, 62, 138) = true := by decide +kernel
theorem zk196 : zchkM zm196 = true := by decide +kernel
theorem zw196 : zmw zm196 (1621, 0, 1620, 63, 138) = true := by decide +kernel
theorem zk197 : zchkM zm197 = true := by decide +kernel
theorem zw197 : zmw zm197 (1625, 0, 1624, 64, 138) = true := by decide +kernel
theorem zk198 : zchkM zm198 = true := by decide +kernel
theorem zw198 : zmw zm198 (1629, 0, 1628, 65, 138) = true := by decide +kernel
theorem zk199 : zchkM zm199 = true := by decide +kernel
theorem zw199 : zmw zm199 (1633, 0, 1632, 66, 138) = true := by decide +kernel
theorem zk200 : zchkM zm200 = true := by decide +kernel
theorem zw200 : zmw zm200 (1637, 0, 1636, 67, 138) = true := by decide +kernel
theorem zk201 : zchkM zm201 = true := by decide +kernel
theorem zw201 : zmw zm201 (1641, 0, 1640, 68, 138) = true := by decide +kernel
theorem zk202 : zchkM zm202 = true := by decide +kernel
theorem zw202 : zmw zm202 (1645, 0, 1644, 69, 138) = true := by decide +kernel
theorem zk203 : zchkM zm203 = true := by decide +kernel
theorem zw203 : zmw zm203 (1649, 0, 1648, 70, 138) = true := by decide +kernel
theorem zk204 : zchkM zm204 = true := by decide +kernel
theorem zw204 : zmw zm204 (1653, 0, 1652, 71, 138) = true := by decide +kernel
theorem zk205 : zchkM zm205 = true := by decide +kernel
theorem zw205 : zmw zm205 (1657, 0, 1656, 72, 138) = true := by decide +kernel
theorem zk206 : zchkM zm206 = true := by decide +kernel
theorem zw206 : zmw zm206 (1661, 0, 1660, 73, 138) = true := by decide +kernel
theorem zk207 : zchkM zm207 = true := by decide +kernel
theorem zw207 : zmw zm207 (1665, 0, 1664, 74, 138) = true := by decide +kernel
theorem zk208 : zchkM zm208 = true := by decide +kernel
theorem zw208 : zmw zm208 (1669, 0, 1667, 1668, 138) = true := by decide +kernel
theorem zk209 : zchkM zm209 = true := by decide +kernel
theorem zw209 : zmw zm209 (1673, 0, 1671, 1672, 138) = true := by decide +kernel
theorem zk210 : zchkM zm210 = true := by decide +kernel
theorem zw210 : zmw zm210 (1677, 0, 1676, 75, 138) = true := by decide +kernel
theorem zk211 : zchkM zm211 = true := by decide +kernel
theorem zw211 : zmw zm211 (1681, 0, 1680, 76, 138) = true := by decide +kernel
theorem zk212 : zchkM zm212 = true := by decide +kernel
theorem zw212 : zmw zm212 (1685, 0, 1684, 77, 138) = true := by decide +kernel
theorem zk213 : zchkM zm213 = true := by decide +kernel
theorem zw213 : zmw zm213 (1689, 0, 1688, 78, 138) = true := by decide +kernel
theorem zk214 : zchkM zm214 = true := by decide +kernel
theorem zw214 : zmw zm214 (1693, 0, 1692, 79, 138) = true := by decide +kernel
theorem zk215 : zchkM zm215 = true := by decide +kernel
theorem zw215 : zmw zm215 (1697, 0, 1696, 80, 138) = true := by decide +kernel
theorem zk216 : zchkM zm216 = true := by decide +kernel
theorem zw216 : zmw zm216 (1701, 0, 1700, 81, 138) = true := by decide +kernel
theorem zk217 : zchkM zm217 = true := by decide +kernel
theorem zw217 : zmw zm217 (1705, 0, 1704, 82, 138) = true := by decide +kernel
theorem zk218 : zchkM zm218 = true := by decide +kernel
theorem zw218 : zmw zm218 (1709, 0, 1708, 83, 138) = true := by decide +kernel
theorem zk219 : zchkM zm219 = true := by decide +kernel
theorem zw219 : zmw zm219 (1713, 0, 1712, 84, 138) = true := by decide +kernel
theorem zk220 : zchkM zm220 = true := by decide +kernel
theorem zw220 : zmw zm220 (1717, 0, 1716, 85, 138) = true := by decide +kernel
theorem zk221 : zchkM zm221 = true := by decide +kernel
theorem zw221 : zmw zm221 (1721, 0, 1720, 86, 138) = true := by decide +kernel
theorem zk222 : zchkM zm222 = true := by decide +kernel
theorem zw222 : zmw zm222 (1725, 0, 1724, 87, 138) = true := by decide +kernel
theorem zk223 : zchkM zm223 = true := by decide +kernel
theorem zw223 : zmw zm223 (1729, 0, 1728, 88, 138) = true := by decide +kernel
theorem zk224 : zchkM zm224 = true := by decide +kernel
theorem zw224 : zmw zm224 (1733, 0, 1732, 89, 138) = true := by decide +kernel
theorem zk225 : zchkM zm225 = true := by decide +kernel
theorem zw225 : zmw zm225 (1737, 0, 1736, 90, 138) = true := by decide +kernel
theorem zk226 : zchkM zm226 = true := by decide +kernel
theorem zw226 : zmw zm226 (1741, 0, 1740, 91, 138) = true := by decide +kernel
theorem zk227 : zchkM zm227 = true := by decide +kernel
theorem zw227 : zmw zm227 (1745, 0, 1744, 92, 138) = true := by decide +kernel
theorem zk228 : zchkM zm228 = true := by decide +kernel
theorem zw228 : zmw zm228 (1749, 0, 1748, 93, 138) = true := by decide +kernel
theorem zk229 : zchkM zm229 = true := by decide +kernel
theorem zw229 : zmw zm229 (1753, 0, 1752, 94, 138) = true := by decide +kernel
theorem zk230 : zchkM zm230 = true := by decide +kernel
theorem zw230 : zmw zm230 (1757, 0, 1756, 95, 138) = true := by decide +kernel
theorem zk231 : zchkM zm231 = true := by decide +kernel
theorem zw231 : zmw zm231 (1761, 0, 1760, 96, 138) = true := by decide +kernel
theorem zk232 : zchkM zm232 = true := by decide +kernel
theorem zw232 : zmw zm232 (1765, 0, 1764, 97, 138) = true := by decide +kernel
theorem zk233 : zchkM zm233 = true := by decide +kernel
theorem zw233 : zmw zm233 (1769, 0, 1768, 98, 138) = true := by decide +kernel
theorem zk234 : zchkM zm234 = true := by decide +kernel
theorem zw234 : zmw zm234 (1775, 0, 1774, 99, 138) = true := by decide +kernel
theorem zk235 : zchkM zm235 = true := by decide +kernel
theorem zw235 : zmw zm235 (1779, 0, 1778, 100, 138) = true := by decide +kernel
theorem zk236 : zchkM zm236 = true := by decide +kernel
theorem zw236 : zmw zm236 (1783, 0, 1782, 101, 138) = true := by decide +kernel
theorem zk237 : zchkM zm237 = true := by decide +kernel
theorem zw237 : zmw zm237 (1787, 0, 1786, 102, 138) = true := by decide +kernel
theorem zk238 : zchkM zm238 = true := by decide +kernel
theorem zw238 : zmw zm238 (1791, 0, 1790, 103, 138) = true := by decide +kernel
theorem zk239 : zchkM zm239 = true := by decide +kernel
theorem zw239 : zmw zm239 (1795, 0, 1793, 1794, 138) = true := by decide +kernel
theorem zk240 : zchkM zm240 = true := by decide +kernel
theorem zw240 : zmw zm240 (1799, 0, 1798, 104, 138) = true := by decide +kernel
theorem zk241 : zchkM zm241 = true := by decide +kernel
theorem zw241 : zmw zm241 (1803, 0, 1801, 1802, 138) = true := by decide +kernel
theorem zk242 : zchkM zm242 = true := by decide +kernel
theorem zw242 : zmw zm242 (1807, 0, 1805, 1806, 138) = true := by decide +kernel
theorem zk243 : zchkM zm243 = true := by decide +kernel
theorem zw243 : zmw zm243 (1811, 0, 1809, 1810, 138) = true := by decide +kernel
theorem zk244 : zchkM zm244 = true := by decide +kernel
theorem zw244 : zmw zm244 (1815, 0, 1813, 1814, 138) = true := by decide +kernel
theorem zk245 : zchkM zm245 = true := by decide +kernel
theorem zw245 : zmw zm245 (1819, 0, 1818, 105, 138) = true := by decide +kernel
theorem zk246 : zchkM zm246 = true := by decide +kernel
theorem zw246 : zmw zm246 (1823, 0, 1822, 106, 138) = true := by decide +kernel
theorem zk247 : zchkM zm247 = true := by decide +kernel
theorem zw247 : zmw zm247 (1827, 0, 1826, 107, 138) = true := by decide +kernel
theorem zk248 : zchkM zm248 = true := by decide +kernel
theorem zw248 : zmw zm248 (1831, 0, 1829, 1830, 138) = true := by decide +kernel
theorem zk249 : zchkM zm249 = true := by decide +kernel
theorem zw249 : zmw zm249 (1835, 0, 1833, 1834, 138) = true := by decide +kernel
theorem zk250 : zchkM zm250 = true := by decide +kernel
theorem zw250 : zmw zm250 (1839, 0, 1838, 108, 138) = true := by decide +kernel
theorem zk251 : zchkM zm251 = true := by decide +kernel
theorem zw251 : zmw zm251 (1844, 0, 1842, 1843, 138) = true := by decide +kernel
theorem zk252 : zchkM zm252 = true := by decide +kernel
theorem zw252 : zmw zm252 (1848, 0, 1846, 1847, 138) = true := by decide +kernel
theorem zk253 : zchkM zm253 = true := by decide +kernel
theorem zw253 : zmw zm253 (1852, 0, 1851, 109, 138) = true := by decide +kernel
theorem zk254 : zchkM zm254 = true := by decide +kernel
theorem zw254 : zmw zm254 (1856, 0, 1855, 110, 138) = true := by decide +kernel
theorem zk255 : zchkM zm255 = true := by decide +kernel
theorem zw255 : zmw zm255 (1860, 0, 1858, 1859, 138) = true := by decide +kernel
theorem zk256 : zchkM zm256 = true := by decide +kernel
theorem zw256 : zmw zm256 (1864, 0, 1863, 111, 138) = true := by decide +kernel
theorem zk257 : zchkM zm257 = true := by decide +kernel
theorem zw257 : zmw zm257 (1868, 0, 1867, 112, 138) = true := by decide +kernel
theorem zk258 : zchkM zm258 = true := by decide +kernel
theorem zw258 : zmw zm258 (1872, 0, 1870, 1871, 138) = true := by decide +kernel
theorem zk259 : zchkM zm259 = true := by decide +kernel
theorem zw259 : zmw zm259 (1876, 0, 1874, 1875, 138) = true := by decide +kernel
theorem zk260 : zchkM zm260 = true := by decide +kernel
theorem zw260 : zmw zm260 (1880, 0, 1879, 113, 138) = true := by decide +kernel
theorem zk261 : zchkM zm261 = true := by decide +kernel
theorem zw261 : zmw zm261 (1884, 0, 1882, 1883, 138) = true := by decide +kernel
theorem zk262 : zchkM zm262 = true := by decide +kernel
theorem zw262 : zmw zm262 (1888, 0, 1886, 1887, 138) = true := by decide +kernel
theorem zk263 : zchkM zm263 = true := by decide +kernel
theorem zw263 : zmw zm263 (1892, 0, 1891, 114, 138) = true := by decide +kernel
theorem zk264 : zchkM zm264 = true := by decide +kernel
theorem zw264 : zmw zm264 (1896, 0, 1894, 1895, 138) = true := by decide +kernel
theorem zk265 : zchkM zm265 = true := by decide +kernel
theorem zw265 : zmw zm265 (1900, 0, 1899, 115, 138) = true := by decide +kernel
theorem zk266 : zchkM zm266 = true := by decide +kernel
theorem zw266 : zmw zm266 (1904, 0, 1902, 1903, 138) = true := by decide +kernel
theorem zk267 : zchkM zm267 = true := by decide +kernel
theorem zw267 : zmw zm267 (1908, 0, 1906, 1907, 138) = true := by decide +kernel
theorem zk268 : zchkM zm268 = true := by decide +kernel
theorem zw268 : zmw zm268 (1912, 0, 1910, 1911, 138) = true := by decide +kernel
theorem zk269 : zchkM zm269 = true := by decide +kernel
theorem zw269 : zmw zm269 (1916, 0, 1915, 116, 138) = true := by decide +kernel
theorem zk270 : zchkM zm270 = true := by decide +kernel
theorem zw270 : zmw zm270 (1920, 0, 1919, 117, 138) = true := by decide +kernel
theorem zk271 : zchkM zm271 = true := by decide +kernel
theorem zw271 : zmw zm271 (1924, 0, 1923, 118, 138) = true := by decide +kernel
theorem zk272 : zchkM zm272 = true := by decide +kernel
theorem zw272 : zmw zm272 (1928, 0, 1926, 1927, 138) = true := by decide +kernel
theorem zk273 : zchkM zm273 = true := by decide +kernel
theorem zw273 : zmw zm273 (1932, 0, 1930, 1931, 138) = true := by decide +kernel
theorem zk274 : zchkM zm274 = true := by decide +kernel
theorem zw274 : zmw zm274 (1936, 0, 1935, 119, 138) = true := by decide +kernel
theorem zk275 : zchkM zm275 = true := by decide +kernel
theorem zw275 : zmw zm275 (1940, 0, 1938, 1939, 138) = true := by decide +kernel
theorem zk276 : zchkM zm276 = true := by decide +kernel
theorem zw276 : zmw zm276 (1944, 0, 1942, 1943, 138) = true := by decide +kernel
theorem zk277 : zchkM zm277 = true := by decide +kernel
theorem zw277 : zmw zm277 (1948, 0, 1946, 1947, 138) = true := by decide +kernel
theorem zk278 : zchkM zm278 = true := by decide +kernel
theorem zw278 : zmw zm278 (1952, 0, 1951, 120, 138) = true := by decide +kernel
theorem zk279 : zchkM zm279 = true := by decide +kernel
theorem zw279 : zmw zm279 (1956, 0, 1954, 1955, 138) = true := by decide +kernel
theorem zk280 : zchkM zm280 = true := by decide +kernel
theorem zw280 : zmw zm280 (1960, 0, 1959, 121, 138) = true := by decide +kernel
theorem zk281 : zchkM zm281 = true := by decide +kernel
theorem zw281 : zmw zm281 (1964, 0, 1963, 122, 138) = true := by decide +kernel
theorem zk282 : zchkM zm282 = true := by decide +kernel
theorem zw282 : zmw zm282 (1968, 0, 1967, 123, 138) = true := by decide +kernel
theorem zk283 : zchkM zm283 = true := by decide +kernel
theorem zw283 : zmw zm283 (1972, 0, 1970, 1971, 138) = true := by decide +kernel
theorem zk284 : zchkM zm284 = true := by decide +kernel
theorem zw284 : zmw zm284 (649, 1, 648, 0, 140) = true := by decide +kernel
theorem zk285 : zchkM zm285 = true := by decide +kernel
theorem zw285 : zmw zm285 (685, 1, 684, 0, 141) = true := by decide +kernel
theorem zk286 : zchkM zm286 = true := by decide +kernel
theorem zw286 : zmw zm286 (676, 1, 675, 0, 132) = true := by decide +kernel
theorem zk287 : zchkM zm287 = true := by decide +kernel
theorem zw287 : zmw zm287 (302, 1, 301, 0, 132) = true := by decide +kernel
theorem zk288 : zchkM zm288 = true := by decide +kernel
theorem zw288 : zmw zm288 (607, 1, 606, 0, 132) = true := by decide +kernel
theorem zk289 : zchkM zm289 = true := by decide +kernel
theorem zw289 : zmw zm289 (1145, 1, 1144, 0, 132) = true := by decide +kernel
theorem zk290 : zchkM zm290 = true := by decide +kernel
theorem zlk_mem {α : Type} {l : List (List (Option α))} {k : Nat} {x : α} (h : zlk l k = some x) : ∃ c, l[k / 16]? = some c ∧ c[k % 16]? = some (some x) := by
  unfold zlk at h
  split at h
  next c hc =>
    split at h
    next o ho => exact ⟨c, hc, by rw [ho, h]⟩
    next => cases h
  next => cases h
theorem zlk_all {α : Type} {P : α → Prop} {l : List (List (Option α))} (h : ∀ c ∈ l, ∀ o ∈ c, ∀ x, o = some x → P x) {k : Nat} {x : α} (hk : zlk l k = some x) : P x := by
  obtain ⟨c, h1, h2⟩ := zlk_mem hk
  exact h c (List.mem_of_getElem? h1) _ (List.mem_of_getElem? h2) x rfl
theorem zkc0 : ∀ o ∈ [some zm0, some zm1, some zm2, some zm3, some zm4, some zm5, some zm6, some zm7, some zm8, some zm9, some zm10, some zm11, some zm12, some zm13, some zm14, some zm15], ∀ x : zMe, o = some x → zchkM x = true := List.forall_mem_cons.mpr ⟨fun _ h => by cases h; exact zk0, List.forall_mem_cons.mpr ⟨fun _ h => by cases h; exact zk1, List.forall_mem_cons.mpr ⟨fun _ h => by cases h; exact zk2, List.forall_mem_cons.mpr ⟨fun _ h => by cases h; exact zk3, List.forall_mem_cons.mpr ⟨fun _ h => by cases h; exact zk4, List.forall_mem_cons.mpr ⟨fun _ h => by cases h; exact zk5, List.forall_mem_cons.mpr ⟨fun _ h => by cases h; exact zk6, List.forall_mem_cons.mpr ⟨fun _ h => by cases h; exact zk7, List.forall_mem_cons.mpr ⟨fun _ h => by cases h; exact zk8, List.forall_mem_cons.mpr ⟨fun _ h => by cases h; exact zk9, List.forall_mem_cons.mpr ⟨fun _ h => by cases h; exact zk10, List.forall_mem_cons.mpr ⟨fun _ h => by cases h; exact zk11, List.forall_mem_cons.mpr ⟨fun _ h => by cases h; exact zk12, List.forall_mem_cons.mpr ⟨fun _ h => by cases h; exact zk13, List.forall_mem_cons.mpr ⟨fun _ h => by cases h; exact zk14, List.forall_mem_cons.mpr ⟨fun _ h => by cases h; exact zk15, fun _ h => absurd h List.not_mem_nil⟩⟩⟩⟩⟩⟩⟩⟩⟩⟩⟩⟩⟩⟩⟩⟩
theorem zkc1 : ∀ o ∈ [some zm16, some zm17, some zm18, some zm19, some zm20, some zm21, some zm22, some zm23, some zm24, some zm25, some zm26, some zm27, some zm28, some zm29, some zm30, some zm31], ∀ x : zMe, o = some x → zchkM x = true := List.forall_mem_cons.mpr ⟨fun _ h => by cases h; exact zk16, List.forall_mem_cons.mpr ⟨fun _ h => by cases h; exact zk17, List.forall_mem_cons.mpr ⟨fun _ h => by cases h; exact zk18, List.forall_mem_cons.mpr ⟨fun _ h => by cases h; exact zk19, List.forall_mem_cons.mpr ⟨fun _ h => by cases h; exact zk20, List.forall_mem_cons.mpr ⟨fun _ h => by cases h; exact zk21, List.forall_mem_cons.mpr ⟨fun _ h => by cases h; exact zk22, List.forall_mem_cons.mpr ⟨fun _ h => by cases h; exact zk23, List.forall_mem_cons.mpr ⟨fun _ h => by cases h; exact zk24, List.forall_mem_cons.mpr ⟨fun _ h => by cases h; exact zk25, List.forall_mem_cons.mpr ⟨fun _ h => by cases h; exact zk26, List.forall_mem_cons.mpr ⟨fun _ h => by cases h; exact zk27, List.forall_mem_cons.mpr ⟨fun _ h => by cases h; exact zk28, List.forall_mem_cons.mpr ⟨fun _ h => by cases h; exact zk29, List.forall_mem_cons.mpr ⟨fun _ h => by cases h; exact zk30, List.forall_mem_cons.mpr ⟨fun _ h => by cases h; exact zk31, fun _ h => absurd h List.not_mem_nil⟩⟩⟩⟩⟩⟩⟩⟩⟩⟩⟩⟩⟩⟩⟩⟩
theorem zkc2 : ∀ o ∈ [some zm32, some zm33, some zm34, some zm35, some zm36, some zm37, some zm38, some zm39, some zm40, some zm41, some zm42, some zm43, some zm44, some zm45, some zm46, some zm47], ∀ x : zMe, o = some x → zchkM x = true := List.forall_mem_cons.mpr ⟨fun _ h => by cases h; exact zk32, List.forall_mem_cons.mpr ⟨fun _ h => by cases h; exact zk33, List.forall_mem_cons.mpr ⟨fun _ h => by cases h; exact zk34, List.forall_mem_cons.mpr ⟨fun _ h => by cases h; exact zk35, List.forall_mem_cons.mpr ⟨fun _ h => by cases h; exact zk36, List.forall_mem_cons.mpr ⟨fun _ h => by cases h; exact zk37, List.forall_mem_cons.mpr ⟨fun _ h => by cases h; exact zk38, List.forall_mem_cons.mpr ⟨fun _ h => by cases h; exact zk39, List.forall_mem_cons.mpr ⟨fun _ h => by cases h; exact zk40, List.forall_mem_cons.mpr ⟨fun _ h => by cases h; exact zk41, List.forall_mem_cons.mpr ⟨fun _ h => by cases h; exact zk42, List.forall_mem_cons.mpr ⟨fun _ h => by cases h; exact zk43, List.forall_mem_cons.mpr ⟨fun _ h => by cases h; exact zk44, List.forall_mem_cons.mpr ⟨fun _ h => by cases h; exact zk45, List.forall_mem_cons.mpr ⟨fun _ h => by cases h; exact zk46, List.forall_mem_cons.mpr ⟨fun _ h => by cases h; exact zk47, fun _ h => absurd h List.not_mem_nil⟩⟩⟩⟩⟩⟩⟩⟩⟩⟩⟩⟩⟩⟩⟩⟩
theorem zkc3 : ∀ o ∈ [some zm48, some zm49, some zm50, some zm51, some zm52, some zm53, some zm54, some zm55, some zm56, some zm57, some zm58, some zm59, some zm60, some zm61, some zm62, some zm63], ∀ x : zMe, o = some x → zchkM x = true := List.forall_mem_cons.mpr ⟨fun _ h => by cases h; exact zk48, List.forall_mem_cons.mpr ⟨fun _ h => by cases h; exact zk49, List.forall_mem_cons.mpr ⟨fun _ h => by cases h; exact zk50, List.forall_mem_cons.mpr ⟨fun _ h => by cases h; exact zk51, List.forall_mem_cons.mpr ⟨fun _ h => by cases h; exact zk52, List.forall_mem_cons.mpr ⟨fun _ h => by cases h; exact zk53, List.forall_mem_cons.mpr ⟨fun _ h => by cases h; exact zk54, List.forall_mem_cons.mpr ⟨fun _ h => by cases h; exact zk55, List.forall_mem_cons.mpr ⟨fun _ h => by cases h; exact zk56, List.forall_mem_cons.mpr ⟨fun _ h => by cases h; exact zk57, List.forall_mem_cons.mpr ⟨fun _ h => by cases h; exact zk58, List.forall_mem_cons.mpr ⟨fun _ h => by cases h; exact zk59, List.forall_mem_cons.mpr ⟨fun _ h => by cases h; exact zk60, List.forall_mem_cons.mpr ⟨fun _ h => by cases h; exact zk61, List.forall_mem_cons.mpr ⟨fun _ h => by cases h; exact zk62, List.forall_mem_cons.mpr ⟨fun _ h => by cases h; exact zk63, fun _ h => absurd h List.not_mem_nil⟩⟩⟩⟩⟩⟩⟩⟩⟩⟩⟩⟩⟩⟩⟩⟩
theorem zkc4 : ∀ o ∈ [some zm64, some zm65, some zm66, some zm67, some zm68, some zm69, some zm70, some zm71, some zm72, some zm73, some zm74, some zm75, some zm76, some zm77, some zm78, some zm79], ∀ x : zMe, o = some x → zchkM x = true := List.forall_mem_cons.mpr ⟨fun _ h => by cases h; exact zk64, List.forall_mem_cons.mpr ⟨fun _ h => by cases h; exact zk65, List.forall_mem_cons.mpr ⟨fun _ h => by cases h; exact zk66, List.forall_mem_cons.mpr ⟨fun _ h => by cases h; exact zk67, List.forall_mem_cons.mpr ⟨fun _ h => by cases h; exact zk68, List.forall_mem_cons.mpr ⟨fun _ h => by cases h; exact zk69, List.forall_mem_cons.mpr ⟨fun _ h => by cases h; exact zk70, List.forall_mem_cons.mpr ⟨fun _ h => by cases h; exact zk71, List.forall_mem_cons.mpr ⟨fun _ h => by cases h; exact zk72, List.forall_mem_cons.mpr ⟨fun _ h => by cases h; exact zk73, List.forall_mem_cons.mpr ⟨fun _ h => by cases h; exact zk74, List.forall_mem_cons.mpr ⟨fun _ h => by cases h; exact zk75, List.forall_mem_cons.mpr ⟨fun _ h => by cases h; exact zk76, List.forall_mem_cons.mpr ⟨fun _ h => by cases h; exact zk77, List.forall_mem_cons.mpr ⟨fun _ h => by cases h; exact zk78, List.forall_mem_cons.mpr ⟨fun _ h => by cases h; exact zk79, fun _ h => absurd h List.not_mem_nil⟩⟩⟩⟩⟩⟩⟩⟩⟩⟩⟩⟩⟩⟩⟩⟩
theorem zkc5 : ∀ o ∈ [some zm80, some zm81, some zm82, some zm83, some zm84, some zm85, some zm86, some zm87, some zm88, some zm89, some zm90, some zm91, some zm92, some zm93, some zm94, some zm95], ∀ x : zMe, o = some x → zchkM x = true := List.forall_mem_cons.mpr ⟨fun _ h => by cases h; exact zk80, List.forall_mem_cons.mpr ⟨fun _ h => by cases h; exact zk81, List.forall_mem_cons.mpr ⟨fun _ h => by cases h; exact zk82, List.forall_mem_cons.mpr ⟨fun _ h => by cases h; exact zk83, List.forall_mem_cons.mpr ⟨fun _ h => by cases h; exact zk84, List.forall_mem_cons.mpr ⟨fun _ h => by cases h; exact zk85, List.forall_mem_cons.mpr ⟨fun _ h => by cases h; exact zk86, List.forall_mem_cons.mpr ⟨fun _ h => by cases h; exact zk87, List.forall_mem_cons.mpr ⟨fun _ h => by cases h; exact zk88, List.forall_mem_cons.mpr ⟨fun _ h => by cases h; exact zk89, List.forall_mem_cons.mpr ⟨fun _ h => by cases h; exact zk90, List.forall_mem_cons.mpr ⟨fun _ h => by cases h; exact zk91, List.forall_mem_cons.mpr ⟨fun _ h => by cases h; exact zk92, List.forall_mem_cons.mpr ⟨fun _ h => by cases h; exact zk93, List.forall_mem_cons.mpr ⟨fun _ h => by cases h; exact zk94, List.forall_mem_cons.mpr ⟨fun _ h => by cases h; exact zk95, fun _ h => absurd h List.not_mem_nil⟩⟩⟩⟩⟩⟩⟩⟩⟩⟩⟩⟩⟩⟩⟩⟩
theorem zkc6 : ∀ o ∈ [some zm96, some zm97, some zm98, some zm99, some zm100, some zm101, some zm102, some zm103, some zm104, some zm105, some zm106, some zm107, some zm108, some zm109, some zm110, some zm111], ∀ x : zMe, o = some x → zchkM x = true := List.forall_mem_cons.mpr ⟨fun _ h => by cases h; exact zk96, List.forall_mem_cons.mpr ⟨fun _ h => by cases h; exact zk97, List.forall_mem_cons.mpr ⟨fun _ h => by cases h; exact zk98, List.forall_mem_cons.mpr ⟨fun _ h => by cases h; exact zk99, List.forall_mem_cons.mpr ⟨fun _ h => by cases h; exact zk100, List.forall_mem_cons.mpr ⟨fun _ h => by cases h; exact zk101, List.forall_mem_cons.mpr ⟨fun _ h => by cases h; exact zk102, List.forall_mem_cons.mpr ⟨fun _ h => by cases h; exact zk103, List.forall_mem_cons.mpr ⟨fun _ h => by cases h; exact zk104, List.forall_mem_cons.mpr ⟨fun _ h => by cases h; exact zk105, List.forall_mem_cons.mpr ⟨fun _ h => by cases h; exact zk106, List.forall_mem_cons.mpr ⟨fun _ h => by cases h; exact zk107, List.forall_mem_cons.mpr ⟨fun _ h => by cases h; exact zk108, List.forall_mem_cons.mpr ⟨fun _ h => by cases h; exact zk109, List.forall_mem_cons.mpr ⟨fun _ h => by cases h; exact zk110, List.forall_mem_cons.mpr ⟨fun _ h => by cases h; exact zk111, fun _ h => absurd h List.not_mem_nil⟩⟩⟩⟩⟩⟩⟩⟩⟩⟩⟩⟩⟩⟩⟩⟩
theorem zkc7 : ∀ o ∈ [some zm112, some zm113, some zm114, some zm115, some zm116, some zm117, some zm118, some zm119, some zm120, some zm121, some zm122, some zm123, some zm124, some zm125, some zm126, some zm127], ∀ x : zMe, o = some x → zchkM x = true := List.forall_mem_cons.mpr ⟨fun _ h => by cases h; exact zk112, List.forall_mem_cons.mpr ⟨fun _ h => by cases h; exact zk113, List.forall_mem_cons.mpr ⟨fun _ h => by cases h; exact zk114, List.forall_mem_cons.mpr ⟨fun _ h => by cases h; exact zk115, List.forall_mem_cons.mpr ⟨fun _ h => by cases h; exact zk116, List.forall_mem_cons.mpr ⟨fun _ h => by cases h; exact zk117, List.forall_mem_cons.mpr ⟨fun _ h => by cases h; exact zk118, List.forall_mem_cons.mpr ⟨fun _ h => by cases h; exact zk119, List.forall_mem_cons.mpr ⟨fun _ h => by cases h; exact zk120, List.forall_mem_cons.mpr ⟨fun _ h => by cases h; exact zk121, List.forall_mem_cons.mpr ⟨fun _ h => by cases h; exact zk122, List.forall_mem_cons.mpr ⟨fun _ h => by cases h; exact zk123, List.forall_mem_cons.mpr ⟨fun _ h => by cases h; exact zk124, List.forall_mem_cons.mpr ⟨fun _ h => by cases h; exact zk125, List.forall_mem_cons.mpr ⟨fun _ h => by cases h; exact zk126, List.forall_mem_cons.mpr ⟨fun _ h => by cases h; exact zk127, fun _ h => absurd h List.not_mem_nil⟩⟩⟩⟩⟩⟩⟩⟩⟩⟩⟩⟩⟩⟩⟩⟩
theorem zkc8 : ∀ o ∈ [some zm128, some zm129, some zm130, some zm131, some zm132, some zm133, some zm134, some zm135, some zm136, some zm137, some zm138, some zm139, some zm140, some zm141, some zm142, some zm143], ∀ x : zMe, o = some x → zchkM x = true := List.forall_mem_cons.mpr ⟨fun _ h => by cases h; exact zk128, List.forall_mem_cons.mpr ⟨fun _ h => by cases h; exact zk129, List.forall_mem_cons.mpr ⟨fun _ h => by cases h; exact zk130, List.forall_mem_cons.mpr ⟨fun _ h => by cases h; exact zk131, List.forall_mem_cons.mpr ⟨fun _ h => by cases h; exact zk132, List.forall_mem_cons.mpr ⟨fun _ h => by cases h; exact zk133, List.forall_mem_cons.mpr ⟨fun _ h => by cases h; exact zk134, List.forall_mem_cons.mpr ⟨fun _ h => by cases h; exact zk135, List.forall_mem_cons.mpr ⟨fun _ h => by cases h; exact zk136, List.forall_mem_cons.mpr ⟨fun _ h => by cases h; exact zk137, List.forall_mem_cons.mpr ⟨fun _ h => by cases h; exact zk138, List.forall_mem_cons.mpr ⟨fun _ h => by cases h; exact zk139, List.forall_mem_cons.mpr ⟨fun _ h => by cases h; exact zk140, List.forall_mem_cons.mpr ⟨fun _ h => by cases h; exact zk141, List.forall_mem_cons.mpr ⟨fun _ h => by cases h; exact zk142, List.forall_mem_cons.mpr ⟨fun _ h => by cases h; exact zk143, fun _ h => absurd h List.not_mem_nil⟩⟩⟩⟩⟩⟩⟩⟩⟩⟩⟩⟩⟩⟩⟩⟩
theorem zkc9 : ∀ o ∈ [some zm144, some zm145, some zm146, some zm147, some zm148, some zm149, some zm150, some zm151, some zm152, some zm153, some zm154, some zm155, some zm156, some zm157, some zm158, some zm159], ∀ x : zMe, o = some x → zchkM x = true := List.forall_mem_cons.mpr ⟨fun _ h => by cases h; exact zk144, List.forall_mem_cons.mpr ⟨fun _ h => by cases h; exact zk145, List.forall_mem_cons.mpr ⟨fun _ h => by cases h; exact zk146, List.forall_mem_cons.mpr ⟨fun _ h => by cases h; exact zk147, List.forall_mem_cons.mpr ⟨fun _ h => by cases h; exact zk148, List.forall_mem_cons.mpr ⟨fun _ h => by cases h; exact zk149, List.forall_mem_cons.mpr ⟨fun _ h => by cases h; exact zk150, List.forall_mem_cons.mpr ⟨fun _ h => by cases h; exact zk151, List.forall_mem_cons.mpr ⟨fun _ h => by cases h; exact zk152, List.forall_mem_cons.mpr ⟨fun _ h => by cases h; exact zk153, List.forall_mem_cons.mpr ⟨fun _ h => by cases h; exact zk154, List.forall_mem_cons.mpr ⟨fun _ h => by cases h; exact zk155, List.forall_mem_cons.mpr ⟨fun _ h => by cases h; exact zk156, List.forall_mem_cons.mpr ⟨fun _ h => by cases h; exact zk157, List.forall_mem_cons.mpr ⟨fun _ h => by cases h; exact zk158, List.forall_mem_cons.mpr ⟨fun _ h => by cases h; exact zk159, fun _ h => absurd h List.not_mem_nil⟩⟩⟩⟩⟩⟩⟩⟩⟩⟩⟩⟩⟩⟩⟩⟩
theorem zkc10 : ∀ o ∈ [some zm160, some zm161, some zm162, some zm163, some zm164, some zm165, some zm166, some zm167, some zm168, some zm169, some zm170, some zm171, some zm172, some zm173, some zm174, some zm175], ∀ x : zMe, o = some x → zchkM x = true := List.forall_mem_cons.mpr ⟨fun _ h => by cases h; exact zk160, List.forall_mem_cons.mpr ⟨fun _ h => by cases h; exact zk161, List.forall_mem_cons.mpr ⟨fun _ h => by cases h; exact zk162, List.forall_mem_cons.mpr ⟨fun _ h => by cases h; exact zk163, List.forall_mem_cons.mpr ⟨fun _ h => by cases h; exact zk164, List.forall_mem_cons.mpr ⟨fun _ h => by cases h; exact zk165, List.forall_mem_cons.mpr ⟨fun _ h => by cases h; exact zk166, List.forall_mem_cons.mpr ⟨fun _ h => by cases h; exact zk167, List.forall_mem_cons.mpr ⟨fun _ h => by cases h; exact zk168, List.forall_mem_cons.mpr ⟨fun _ h => by cases h; exact zk169, List.forall_mem_cons.mpr ⟨fun _ h => by cases h; exact zk170, List.forall_mem_cons.mpr ⟨fun _ h => by cases h; exact zk171, List.forall_mem_cons.mpr ⟨fun _ h => by cases h; exact zk172, List.forall_mem_cons.mpr ⟨fun _ h => by cases h; exact zk173, List.forall_mem_cons.mpr ⟨fun _ h => by cases h; exact zk174, List.forall_mem_cons.mpr ⟨fun _ h => by cases h; exact zk175, fun _ h => absurd h List.not_mem_nil⟩⟩⟩⟩⟩⟩⟩⟩⟩⟩⟩⟩⟩⟩⟩⟩
theorem zkc11 : ∀ o ∈ [some zm176, some zm177, some zm178, some zm179, some zm180, some zm181, some zm182, some zm183, some zm184, some zm185, some zm186, some zm187, some zm188, some zm189, some zm190, some zm191], ∀ x : zMe, o = some x → zchkM x = true := List.forall_mem_cons.mpr ⟨fun _ h => by cases h; exact zk176, List.forall_mem_cons.mpr ⟨fun _ h => by cases h; exact zk177, List.forall_mem_cons.mpr ⟨fun _ h => by cases h; exact zk178, List.forall_mem_cons.mpr ⟨fun _ h => by cases h; exact zk179, List.forall_mem_cons.mpr ⟨fun _ h => by cases h; exact zk180, List.forall_mem_cons.mpr ⟨fun _ h => by cases h; exact zk181, List.forall_mem_cons.mpr ⟨fun _ h => by cases h; exact zk182, List.forall_mem_cons.mpr ⟨fun _ h => by cases h; exact zk183, List.forall_mem_cons.mpr ⟨fun _ h => by cases h; exact zk184, List.forall_mem_cons.mpr ⟨fun _ h => by cases h; exact zk185, List.forall_mem_cons.mpr ⟨fun _ h => by cases h; exact zk186, List.forall_mem_cons.mpr ⟨fun _ h => by cases h; exact zk187, List.forall_mem_cons.mpr ⟨fun _ h => by cases h; exact zk188, List.forall_mem_cons.mpr ⟨fun _ h => by cases h; exact zk189, List.forall_mem_cons.mpr ⟨fun _ h => by cases h; exact zk190, List.forall_mem_cons.mpr ⟨fun _ h => by cases h; exact zk191, fun _ h => absurd h List.not_mem_nil⟩⟩⟩⟩⟩⟩⟩⟩⟩⟩⟩⟩⟩⟩⟩⟩
theorem zkc12 : ∀ o ∈ [some zm192, some zm193, some zm194, some zm195, some zm196, some zm197, some zm198, some zm199, some zm200, some zm201, some zm202, some zm203, some zm204, some zm205, some zm206, some zm207], ∀ x : zMe, o = some x → zchkM x = true := List.forall_mem_cons.mpr ⟨fun _ h => by cases h; exact zk192, List.forall_mem_cons.mpr ⟨fun _ h => by cases h; exact zk193, List.forall_mem_cons.mpr ⟨fun _ h => by cases h; exact zk194, List.forall_mem_cons.mpr ⟨fun _ h => by cases h; exact zk195, List.forall_mem_cons.mpr ⟨fun _ h => by cases h; exact zk196, List.forall_mem_cons.mpr ⟨fun _ h => by cases h; exact zk197, List.forall_mem_cons.mpr ⟨fun _ h => by cases h; exact zk198, List.forall_mem_cons.mpr ⟨fun _ h => by cases h; exact zk199, List.forall_mem_cons.mpr ⟨fun _ h => by cases h; exact zk200, List.forall_mem_cons.mpr ⟨fun _ h => by cases h; exact zk201, List.forall_mem_cons.mpr ⟨fun _ h => by cases h; exact zk202, List.forall_mem_cons.mpr ⟨fun _ h => by cases h; exact zk203, List.forall_mem_cons.mpr ⟨fun _ h => by cases h; exact zk204, List.forall_mem_cons.mpr ⟨fun _ h => by cases h; exact zk205, List.forall_mem_cons.mpr ⟨fun _ h => by cases h; exact zk206, List.forall_mem_cons.mpr ⟨fun _ h => by cases h; exact zk207, fun _ h => absurd h List.not_mem_nil⟩⟩⟩⟩⟩⟩⟩⟩⟩⟩⟩⟩⟩⟩⟩⟩
theorem zkc13 : ∀ o ∈ [some zm208, some zm209, some zm210, some zm211, some zm212, some zm213, some zm214, some zm215, some zm216, some zm217, some zm218, some zm219, some zm220, some zm221, some zm222, some zm223], ∀ x : zMe, o = some x → zchkM x = true := List.forall_mem_cons.mpr ⟨fun _ h => by cases h; exact zk208, List.forall_mem_cons.mpr ⟨fun _ h => by cases h; exact zk209, List.forall_mem_cons.mpr ⟨fun _ h => by cases h; exact zk210, List.forall_mem_cons.mpr ⟨fun _ h => by cases h; exact zk211, List.forall_mem_cons.mpr ⟨fun _ h => by cases h; exact zk212, List.forall_mem_cons.mpr ⟨fun _ h => by cases h; exact zk213, List.forall_mem_cons.mpr ⟨fun _ h => by cases h; exact zk214, List.forall_mem_cons.mpr ⟨fun _ h => by cases h; exact zk215, List.forall_mem_cons.mpr ⟨fun _ h => by cases h; exact zk216, List.forall_mem_cons.mpr ⟨fun _ h => by cases h; exact zk217, List.forall_mem_cons.mpr ⟨fun _ h => by cases h; exact zk218, List.forall_mem_cons.mpr ⟨fun _ h => by cases h; exact zk219, List.forall_mem_cons.mpr ⟨fun _ h => by cases h; exact zk220, List.forall_mem_cons.mpr ⟨fun _ h => by cases h; exact zk221, List.forall_mem_cons.mpr ⟨fun _ h => by cases h; exact zk222, List.forall_mem_cons.mpr ⟨fun _ h => by cases h; exact zk223, fun _ h => absurd h List.not_mem_nil⟩⟩⟩⟩⟩⟩⟩⟩⟩⟩⟩⟩⟩⟩⟩⟩
theorem zkc14 : ∀ o ∈ [some zm224, some zm225, some zm226, some zm227, some zm228, some zm229, some zm230, some zm231, some zm232, some zm233, some zm234, some zm235, some zm236, some zm237, some zm238, some zm239], ∀ x : zMe, o = some x → zchkM x = true := List.forall_mem_cons.mpr ⟨fun _ h => by cases h; exact zk224, List.forall_mem_cons.mpr ⟨fun _ h => by cases h; exact zk225, List.forall_mem_cons.mpr ⟨fun _ h => by cases h; exact zk226, List.forall_mem_cons.mpr ⟨fun _ h => by cases h; exact zk227, List.forall_mem_cons.mpr ⟨fun _ h => by cases h; exact zk228, List.forall_mem_cons.mpr ⟨fun _ h => by cases h; exact zk229, List.forall_mem_cons.mpr ⟨fun _ h => by cases h; exact zk230, List.forall_mem_cons.mpr ⟨fun _ h => by cases h; exact zk231, List.forall_mem_cons.mpr ⟨fun _ h => by cases h; exact zk232, List.forall_mem_cons.mpr ⟨fun _ h => by cases h; exact zk233, List.forall_mem_cons.mpr ⟨fun _ h => by cases h; exact zk234, List.forall_mem_cons.mpr ⟨fun _ h => by cases h; exact zk235, List.forall_mem_cons.mpr ⟨fun _ h => by cases h; exact zk236, List.forall_mem_cons.mpr ⟨fun _ h => by cases h; exact zk237, List.forall_mem_cons.mpr ⟨fun _ h => by cases h; exact zk238, List.forall_mem_cons.mpr ⟨fun _ h => by cases h; exact zk239, fun _ h => absurd h List.not_mem_nil⟩⟩⟩⟩⟩⟩⟩⟩⟩⟩⟩⟩⟩⟩⟩⟩
theorem zkc15 : ∀ o ∈ [some zm240, some zm241, some zm242, some zm243, some zm244, some zm245, some zm246, some zm247, some zm248, some zm249, some zm250, some zm251, some zm252, some zm253, some zm254, some zm255], ∀ x : zMe, o = some x → zchkM x = true := List.forall_mem_cons.mpr ⟨fun _ h => by cases h; exact zk240, List.forall_mem_cons.mpr ⟨fun _ h => by cases h; exact zk241, List.forall_mem_cons.mpr ⟨fun _ h => by cases h; exact zk242, List.forall_mem_cons.mpr ⟨fun _ h => by cases h; exact zk243, List.forall_mem_cons.mpr ⟨fun _ h => by cases h; exact zk244, List.forall_mem_cons.mpr ⟨fun _ h => by cases h; exact zk245, List.forall_mem_cons.mpr ⟨fun _ h => by cases h; exact zk246, List.forall_mem_cons.mpr ⟨fun _ h => by cases h; exact zk247, List.forall_mem_cons.mpr ⟨fun _ h => by cases h; exact zk248, List.forall_mem_cons.mpr ⟨fun _ h => by cases h; exact zk249, List.forall_mem_cons.mpr ⟨fun _ h => by cases h; exact zk250, List.forall_mem_cons.mpr ⟨fun _ h => by cases h; exact zk251, List.forall_mem_cons.mpr ⟨fun _ h => by cases h; exact zk252, List.forall_mem_cons.mpr ⟨fun _ h => by cases h; exact zk253, List.forall_mem_cons.mpr ⟨fun _ h => by cases h; exact zk254, List.forall_mem_cons.mpr ⟨fun _ h => by cases h; exact zk255, fun _ h => absurd h List.not_mem_nil⟩⟩⟩⟩⟩⟩⟩⟩⟩⟩⟩⟩⟩⟩⟩⟩
theorem zkc16 : ∀ o ∈ [some zm256, some zm257, some zm258, some zm259, some zm260, some zm261, some zm262, some zm263, some zm264, some zm265, some zm266, some zm267, some zm268, some zm269, some zm270, some zm271], ∀ x : zMe, o = some x → zchkM x = true := List.forall_mem_cons.mpr ⟨fun _ h => by cases h; exact zk256, List.forall_mem_cons.mpr ⟨fun _ h => by cases h; exact zk257, List.forall_mem_cons.mpr ⟨fun _ h => by cases h; exact zk258, List.forall_mem_cons.mpr ⟨fun _ h => by cases h; exact zk259, List.forall_mem_cons.mpr ⟨fun _ h => by cases h; exact zk260, List.forall_mem_cons.mpr ⟨fun _ h => by cases h; exact zk261, List.forall_mem_cons.mpr ⟨fun _ h => by cases h; exact zk262, List.forall_mem_cons.mpr ⟨fun _ h => by cases h; exact zk263, List.forall_mem_cons.mpr ⟨fun _ h => by cases h; exact zk264, List.forall_mem_cons.mpr ⟨fun _ h => by cases h; exact zk265, List.forall_mem_cons.mpr ⟨fun _ h => by cases h; exact zk266, List.forall_mem_cons.mpr ⟨fun _ h => by cases h; exact zk267, List.forall_mem_cons.mpr ⟨fun _ h => by cases h; exact zk268, List.forall_mem_cons.mpr ⟨fun _ h => by cases h; exact zk269, List.forall_mem_cons.mpr ⟨fun _ h => by cases h; exact zk270, List.forall_mem_cons.mpr ⟨fun _ h => by cases h; exact zk271, fun _ h => absurd h List.not_mem_nil⟩⟩⟩⟩⟩⟩⟩⟩⟩⟩⟩⟩⟩⟩⟩⟩
theorem zkc17 : ∀ o ∈ [some zm272, some zm273, some zm274, some zm275, some zm276, some zm277, some zm278, some zm279, some zm280, some zm281, some zm282, some zm283, some zm284, some zm285, some zm286, some zm287], ∀ x : zMe, o = some x → zchkM x = true := List.forall_mem_cons.mpr ⟨fun _ h => by cases h; exact zk272, List.forall_mem_cons.mpr ⟨fun _ h => by cases h; exact zk273, List.forall_mem_cons.mpr ⟨fun _ h => by cases h; exact zk274, List.forall_mem_cons.mpr ⟨fun _ h => by cases h; exact zk275, List.forall_mem_cons.mpr ⟨fun _ h => by cases h; exact zk276, List.forall_mem_cons.mpr ⟨fun _ h => by cases h; exact zk277, List.forall_mem_cons.mpr ⟨fun _ h => by cases h; exact zk278, List.forall_mem_cons.mpr ⟨fun _ h => by cases h; exact zk279, List.forall_mem_cons.mpr ⟨fun _ h => by cases h; exact zk280, List.forall_mem_cons.mpr ⟨fun _ h => by cases h; exact zk281, List.forall_mem_cons.mpr ⟨fun _ h => by cases h; exact zk282, List.forall_mem_cons.mpr ⟨fun _ h => by cases h; exact zk283, List.forall_mem_cons.mpr ⟨fun _ h => by cases h; exact zk284, List.forall_mem_cons.mpr ⟨fun _ h => by cases h; exact zk285, List.forall_mem_cons.mpr ⟨fun _ h => by cases h; exact zk286, List.forall_mem_cons.mpr ⟨fun _ h => by cases h; exact zk287, fun _ h => absurd h List.not_mem_nil⟩⟩⟩⟩⟩⟩⟩⟩⟩⟩⟩⟩⟩⟩⟩⟩
theorem zkc18 : ∀ o ∈ [some zm288, some zm289, some zm290], ∀ x : zMe, o = some x → zchkM x = true := List.forall_mem_cons.mpr ⟨fun _ h => by cases h; exact zk288, List.forall_mem_cons.mpr ⟨fun _ h => by cases h; exact zk289, List.forall_mem_cons.mpr ⟨fun _ h => by cases h; exact zk290, fun _ h => absurd h List.not_mem_nil⟩⟩⟩
theorem zP_chk {a : Nat} {M : zMe} (h : zP a = some M) : zchkM M = true := zlk_all (P := fun x => zchkM x = true) (l := zPt) (List.forall_mem_cons.mpr ⟨zkc0, List.forall_mem_cons.mpr ⟨zkc1, List.forall_mem_cons.mpr ⟨zkc2, List.forall_mem_cons.mpr ⟨zkc3, List.forall_mem_cons.mpr ⟨zkc4, List.forall_mem_cons.mpr ⟨zkc5, List.forall_mem_cons.mpr ⟨zkc6, List.forall_mem_cons.mpr ⟨zkc7, List.forall_mem_cons.mpr ⟨zkc8, List.forall_mem_cons.mpr ⟨zkc9, List.forall_mem_cons.mpr ⟨zkc10, List.forall_mem_cons.mpr ⟨zkc11, List.forall_mem_cons.mpr ⟨zkc12, List.forall_mem_cons.mpr ⟨zkc13, List.forall_mem_cons.mpr ⟨zkc14, List.forall_mem_cons.mpr ⟨zkc15, List.forall_mem_cons.mpr ⟨zkc16, List.forall_mem_cons.mpr ⟨zkc17, List.forall_mem_cons.mpr ⟨zkc18, fun _ h => absurd h List.not_mem_nil⟩⟩⟩⟩⟩⟩⟩⟩⟩⟩⟩⟩⟩⟩⟩⟩⟩⟩⟩) h
theorem zP_w (a : Nat) (h : a < 290) : ∃ M q, zP a = some M ∧ zlk zMp a = some q ∧ zmw M q = true := by
  match a, h with
  | 0, _ => exact ⟨zm0, _, rfl, rfl, zw0⟩
  | 1, _ => exact ⟨zm1, _, rfl, rfl, zw1⟩
  | 2, _ => exact ⟨zm2, _, rfl, rfl, zw2⟩
  | 3, _ => exact ⟨zm3, _, rfl, rfl, zw3⟩
  | 4, _ => exact ⟨zm4, _, rfl, rfl, zw4⟩
  | 5, _ => exact ⟨zm5, _, rfl, rfl, zw5⟩
  | 6, _ => exact ⟨zm6, _, rfl, rfl, zw6⟩
  | 7, _ => exact ⟨zm7, _, rfl, rfl, zw7⟩
  | 8, _ => exact ⟨zm8, _, rfl, rfl, zw8⟩
  | 9, _ => exact ⟨zm9, _, rfl, rfl, zw9⟩
  | 10, _ => exact ⟨zm10, _, rfl, rfl, zw10⟩
  | 11, _ => exact ⟨zm11, _, rfl, rfl, zw11⟩
  | 12, _ => exact ⟨zm12, _, rfl, rfl, zw12⟩
  | 13, _ => exact ⟨zm13, _, rfl, rfl, zw13⟩
  | 14, _ => exact ⟨zm14, _, rfl, rfl, zw14⟩
  | 15, _ => exact ⟨zm15, _, rfl, rfl, zw15⟩
  | 16, _ => exact ⟨zm16, _, rfl, rfl, zw16⟩
  | 17, _ => exact ⟨zm17, _, rfl, rfl, zw17⟩
  | 18, _ => exact ⟨zm18, _, rfl, rfl, zw18⟩
  | 19, _ => exact ⟨zm19, _, rfl, rfl, zw19⟩
  | 20, _ => exact ⟨zm20, _, rfl, rfl, zw20⟩
  | 21, _ => exact ⟨zm21, _, rfl, rfl, zw21⟩
  | 22, _ => exact ⟨zm22, _, rfl, rfl, zw22⟩
  | 23, _ => exact ⟨zm23, _, rfl, rfl, zw23⟩
  | 24, _ => exact ⟨zm24, _, rfl, rfl, zw24⟩
  | 25, _ => exact ⟨zm25, _, rfl, rfl, zw25⟩
  | 26, _ => exact ⟨zm26, _, rfl, rfl, zw26⟩
  | 27, _ => exact ⟨zm27, _, rfl, rfl, zw27⟩
  | 28, _ => exact ⟨zm28, _, rfl, rfl, zw28⟩
  | 29, _ => exact ⟨zm29, _, rfl, rfl, zw29⟩
  | 30, _ => exact ⟨zm30, _, rfl, rfl, zw30⟩
  | 31, _ => exact ⟨zm31, _, rfl, rfl, zw31⟩
  | 32, _ => exact ⟨zm32, _, rfl, rfl, zw32⟩
  | 33, _ => exact ⟨zm33, _, rfl, rfl, zw33⟩
  | 34, _ => exact ⟨zm34, _, rfl, rfl, zw34⟩
  | 35, _ => exact ⟨zm35, _, rfl, rfl, zw35⟩
  | 36, _ => exact ⟨zm36, _, rfl, rfl, zw36⟩
  | 37, _ => exact ⟨zm37, _, rfl, rfl, zw37⟩
  | 38, _ => exact ⟨zm38, _, rfl, rfl, zw38⟩
  | 39, _ => exact ⟨zm39, _, rfl, rfl, zw39⟩
  | 40, _ => exact ⟨zm40, _, rfl, rfl, zw40⟩
  | 41, _ => exact ⟨zm41, _, rfl, rfl, zw41⟩
  | 42, _ => exact ⟨zm42, _, rfl, rfl, zw42⟩
  | 43, _ => exact ⟨zm43, _, rfl, rfl, zw43⟩
  | 44, _ => exact ⟨zm44, _, rfl, rfl, zw44⟩
  | 45, _ => exact ⟨zm45, _, rfl, rfl, zw45⟩
  | 46, _ => exact ⟨zm46, _, rfl, rfl, zw46⟩
  | 47, _ => exact ⟨zm47, _, rfl, rfl, zw47⟩
  | 48, _ => exact ⟨zm48, _, rfl, rfl, zw48⟩
  | 49, _ => exact ⟨zm49, _, rfl, rfl, zw49⟩
  | 50, _ => exact ⟨zm50, _, rfl, rfl, zw50⟩
  | 51, _ => exact ⟨zm51, _, rfl, rfl, zw51⟩
  | 52, _ => exact ⟨zm52, _, rfl, rfl, zw52⟩
  | 53, _ => exact ⟨zm53, _, rfl, rfl, zw53⟩
  | 54, _ => exact ⟨zm54, _, rfl, rfl, zw54⟩
  | 55, _ => exact ⟨zm55, _, rfl, rfl, zw55⟩
  | 56, _ => exact ⟨zm56, _, rfl, rfl, zw56⟩
  | 57, _ => exact ⟨zm57, _, rfl, rfl, zw57⟩
  | 58, _ => exact ⟨zm58, _, rfl, rfl, zw58⟩
  | 59, _ => exact ⟨zm59, _, rfl, rfl, zw59⟩
  | 60, _ => exact ⟨zm60, _, rfl, rfl, zw60⟩
  | 61, _ => exact ⟨zm61, _, rfl, rfl, zw61⟩
  | 62, _ => exact ⟨zm62, _, rfl, rfl, zw62⟩
  | 63, _ => exact ⟨zm63, _, rfl, rfl, zw63⟩
  | 64, _ => exact ⟨zm64, _, rfl, rfl, zw64⟩
  | 65, _ => exact ⟨zm65, _, rfl, rfl, zw65⟩
  | 66, _ => exact ⟨zm66, _, rfl, rfl, zw66⟩
  | 67, _ => exact ⟨zm67, _, rfl, rfl, zw67⟩
  | 68, _ => exact ⟨zm68, _, rfl, rfl, zw68⟩
  | 69, _ => exact ⟨zm69, _, rfl, rfl, zw69⟩
  | 70, _ => exact ⟨zm70, _, rfl, rfl, zw70⟩
  | 71, _ => exact ⟨zm71, _, rfl, rfl, zw71⟩
  | 72, _ => exact ⟨zm72, _, rfl, rfl, zw72⟩
  | 73, _ => exact ⟨zm73, _, rfl, rfl, zw73⟩
  | 74, _ => exact ⟨zm74, _, rfl, rfl, zw74⟩
  | 75, _ => exact ⟨zm75, _, rfl, rfl, zw75⟩
  | 76, _ => exact ⟨zm76, _, rfl, rfl, zw76⟩
  | 77, _ => exact ⟨zm77, _, rfl, rfl, zw77⟩
  | 78, _ => exact ⟨zm78, _, rfl, rfl, zw78⟩
  | 79, _ => exact ⟨zm79, _, rfl, rfl, zw79⟩
  | 80, _ => exact ⟨zm80, _, rfl, rfl, zw80⟩
  | 81, _ => exact ⟨zm81, _, rfl, rfl, zw81⟩
  | 82, _ => exact ⟨zm82, _, rfl, rfl, zw82⟩
  | 83, _ => exact ⟨zm83, _, rfl, rfl, zw83⟩
  | 84, _ => exact ⟨zm84, _, rfl, rfl, zw84⟩
  | 85, _ => exact ⟨zm85, _, rfl, rfl, zw85⟩
  | 86, _ => exact ⟨zm86, _, rfl, rfl, zw86⟩
  | 87, _ => exact ⟨zm87, _, rfl, rfl, zw87⟩
  | 88, _ => exact ⟨zm88, _, rfl, rfl, zw88⟩
  | 89, _ => exact ⟨zm89, _, rfl, rfl, zw89⟩
  | 90, _ => exact ⟨zm90, _, rfl, rfl, zw90⟩
  | 91, _ => exact ⟨zm91, _, rfl, rfl, zw91⟩
  | 92, _ => exact ⟨zm92, _, rfl, rfl, zw92⟩
  | 93, _ => exact ⟨zm93, _, rfl, rfl, zw93⟩
  | 94, _ => exact ⟨zm94, _, rfl, rfl, zw94⟩
  | 95, _ => exact ⟨zm95, _, rfl, rfl, zw95⟩
  | 96, _ => exact ⟨zm96, _, rfl, rfl, zw96⟩
  | 97, _ => exact ⟨zm97, _, rfl, rfl, zw97⟩
  | 98, _ => exact ⟨zm98, _, rfl, rfl, zw98⟩
  | 99, _ => exact ⟨zm99, _, rfl, rfl, zw99⟩
  | 100, _ => exact ⟨zm100, _, rfl, rfl, zw100⟩
  | 101, _ => exact ⟨zm101, _, rfl, rfl, zw101⟩
  | 102, _ => exact ⟨zm102, _, rfl, rfl, zw102⟩
  | 103, _ => exact ⟨zm103, _, rfl, rfl, zw103⟩
  | 104, _ => exact ⟨zm104, _, rfl, rfl, zw104⟩
  | 105, _ => exact ⟨zm105, _, rfl, rfl, zw105⟩
  | 106, _ => exact ⟨zm106, _, rfl, rfl, zw106⟩
  | 107, _ => exact ⟨zm107, _, rfl, rfl, zw107⟩
  | 108, _ => exact ⟨zm108, _, rfl, rfl, zw108⟩
  | 109, _ => exact ⟨zm109, _, rfl, rfl, zw109⟩
  | 110, _ => exact ⟨zm110, _, rfl, rfl, zw110⟩
  | 111, _ => exact ⟨zm111, _, rfl, rfl, zw111⟩
  | 112, _ => exact ⟨zm112, _, rfl, rfl, zw112⟩
  | 113, _ => exact ⟨zm113, _, rfl, rfl, zw113⟩
  | 114, _ => exact ⟨zm114, _, rfl, rfl, zw114⟩
  | 115, _ => exact ⟨zm115, _, rfl, rfl, zw115⟩
  | 116, _ => exact ⟨zm116, _, rfl, rfl, zw116⟩
  | 117, _ => exact ⟨zm117, _, rfl, rfl, zw117⟩
  | 118, _ => exact ⟨zm118, _, rfl, rfl, zw118⟩
  | 119, _ => exact ⟨zm119, _, rfl, rfl, zw119⟩
  | 120, _ => exact ⟨zm120, _, rfl, rfl, zw120⟩
  | 121, _ => exact ⟨zm121, _, rfl, rfl, zw121⟩
  | 122, _ => exact ⟨zm122, _, rfl, rfl, zw122⟩
  | 123, _ => exact ⟨zm123, _, rfl, rfl, zw123⟩
  | 124, _ => exact ⟨zm124, _, rfl, rfl, zw124⟩
  | 125, _ => exact ⟨zm125, _, rfl, rfl, zw125⟩
  | 126, _ => exact ⟨zm126, _, rfl, rfl, zw126⟩
  | 127, _ => exact ⟨zm127, _, rfl, rfl, zw127⟩
  | 128, _ => exact ⟨zm128, _, rfl, rfl, zw128⟩
  | 129, _ => exact ⟨zm129, _, rfl, rfl, zw129⟩
  | 130, _ => exact ⟨zm130, _, rfl, rfl, zw130⟩
  | 131, _ => exact ⟨zm131, _, rfl, rfl, zw131⟩
  | 132, _ => exact ⟨zm132, _, rfl, rfl, zw132⟩
  | 133, _ => exact ⟨zm133, _, rfl, rfl, zw133⟩
  | 134, _ => exact ⟨zm134, _, rfl, rfl, zw134⟩
  | 135, _ => exact ⟨zm135, _, rfl, rfl, zw135⟩
  | 136, _ => exact ⟨zm136, _, rfl, rfl, zw136⟩
  | 137, _ => exact ⟨zm137, _, rfl, rfl, zw137⟩
  | 138, _ => exact ⟨zm138, _, rfl, rfl, zw138⟩
  | 139, _ => exact ⟨zm139, _, rfl, rfl, zw139⟩
  | 140, _ => exact ⟨zm140, _, rfl, rfl, zw140⟩
  | 141, _ => exact ⟨zm141, _, rfl, rfl, zw141⟩
  | 142, _ => exact ⟨zm142, _, rfl, rfl, zw142⟩
  | 143, _ => exact ⟨zm143, _, rfl, rfl, zw143⟩
  | 144, _ => exact ⟨zm144, _, rfl, rfl, zw144⟩
  | 145, _ => exact ⟨zm145, _, rfl, rfl, zw145⟩
  | 146, _ => exact ⟨zm146, _, rfl, rfl, zw146⟩
  | 147, _ => exact ⟨zm147, _, rfl, rfl, zw147⟩
  | 148, _ => exact ⟨zm148, _, rfl, rfl, zw148⟩
  | 149, _ => exact ⟨zm149, _, rfl, rfl, zw149⟩
  | 150, _ => exact ⟨zm150, _, rfl, rfl, zw150⟩
  | 151, _ => exact ⟨zm151, _, rfl, rfl, zw151⟩
  | 152, _ => exact ⟨zm152, _, rfl, rfl, zw152⟩
  | 153, _ => exact ⟨zm153, _, rfl, rfl, zw153⟩
  | 154, _ => exact ⟨zm154, _, rfl, rfl, zw154⟩
  | 155, _ => exact ⟨zm155, _, rfl, rfl, zw155⟩
  | 156, _ => exact ⟨zm156, _, rfl, rfl, zw156⟩
  | 157, _ => exact ⟨zm157, _, rfl, rfl, zw157⟩
  | 158, _ => exact ⟨zm158, _, rfl, rfl, zw158⟩
  | 159, _ => exact ⟨zm159, _, rfl, rfl, zw159⟩
  | 160, _ => exact ⟨zm160, _, rfl, rfl, zw160⟩
  | 161, _ => exact ⟨zm161, _, rfl, rfl, zw161⟩
  | 162, _ => exact ⟨zm162, _, rfl, rfl, zw162⟩
  | 163, _ => exact ⟨zm163, _, rfl, rfl, zw163⟩
  | 164, _ => exact ⟨zm164, _, rfl, rfl, zw164⟩
  | 165, _ => exact ⟨zm165, _, rfl, rfl, zw165⟩
  | 166, _ => exact ⟨zm166, _, rfl, rfl, zw166⟩
  | 167, _ => exact ⟨zm167, _, rfl, rfl, zw167⟩
  | 168, _ => exact ⟨zm168, _, rfl, rfl, zw168⟩
  | 169, _ => exact ⟨zm169, _, rfl, rfl, zw169⟩
  | 170, _ => exact ⟨zm170, _, rfl, rfl, zw170⟩
  | 171, _ => exact ⟨zm171, _, rfl, rfl, zw171⟩
  | 172, _ => exact ⟨zm172, _, rfl, rfl, zw172⟩
  | 173, _ => exact ⟨zm173, _, rfl, rfl, zw173⟩
  | 174, _ => exact ⟨zm174, _, rfl, rfl, zw174⟩
  | 175, _ => exact ⟨zm175, _, rfl, rfl, zw175⟩
  | 176, _ => exact ⟨zm176, _, rfl, rfl, zw176⟩
  | 177, _ => exact ⟨zm177, _, rfl, rfl, zw177⟩
  | 178, _ => exact ⟨zm178, _, rfl, rfl, zw178⟩
  | 179, _ => exact ⟨zm179, _, rfl, rfl, zw179⟩
  | 180, _ => exact ⟨zm180, _, rfl, rfl, zw180⟩
  | 181, _ => exact ⟨zm181, _, rfl, rfl, zw181⟩
  | 182, _ => exact ⟨zm182, _, rfl, rfl, zw182⟩
  | 183, _ => exact ⟨zm183, _, rfl, rfl, zw183⟩
  | 184, _ => exact ⟨zm184, _, rfl, rfl, zw184⟩
  | 185, _ => exact ⟨zm185, _, rfl, rfl, zw185⟩
  | 186, _ => exact ⟨zm186, _, rfl, rfl, zw186⟩
  | 187, _ => exact ⟨zm187, _, rfl, rfl, zw187⟩
  | 188, _ => exact ⟨zm188, _, rfl, rfl, zw188⟩
  | 189, _ => exact ⟨zm189, _, rfl, rfl, zw189⟩
  | 190, _ => exact ⟨zm190, _, rfl, rfl, zw190⟩
  | 191, _ => exact ⟨zm191, _, rfl, rfl, zw191⟩
  | 192, _ => exact ⟨zm192, _, rfl, rfl, zw192⟩
  | 193, _ => exact ⟨zm193, _, rfl, rfl, zw193⟩
  | 194, _ => exact ⟨zm194, _, rfl, rfl, zw194⟩
  | 195, _ => exact ⟨zm195, _, rfl, rfl, zw195⟩
  | 196, _ => exact ⟨zm196, _, rfl, rfl, zw196⟩
  | 197, _ => exact ⟨zm197, _, rfl, rfl, zw197⟩
  | 198, _ => exact ⟨zm198, _, rfl, rfl, zw198⟩
  | 199, _ => exact ⟨zm199, _, rfl, rfl, zw199⟩
  | 200, _ => exact ⟨zm200, _, rfl, rfl, zw200⟩
  | 201, _ => exact ⟨zm201, _, rfl, rfl, zw201⟩
  | 202, _ => exact ⟨zm202, _, rfl, rfl, zw202⟩
  | 203, _ => exact ⟨zm203, _, rfl, rfl, zw203⟩
  | 204, _ => exact ⟨zm204, _, rfl, rfl, zw204⟩
  | 205, _ => exact ⟨zm205, _, rfl, rfl, zw205⟩
  | 206, _ => exact ⟨zm206, _, rfl, rfl, zw206⟩
  | 207, _ => exact ⟨zm207, _, rfl, rfl, zw207⟩
  | 208, _ => exact ⟨zm208, _, rfl, rfl, zw208⟩
  | 209, _ => exact ⟨zm209, _, rfl, rfl, zw209⟩
  | 210, _ => exact ⟨zm210, _, rfl, rfl, zw210⟩
  | 211, _ => exact ⟨zm211, _, rfl, rfl, zw211⟩
  | 212, _ => exact ⟨zm212, _, rfl, rfl, zw212⟩
  | 213, _ => exact ⟨zm213, _, rfl, rfl, zw213⟩
  | 214, _ => exact ⟨zm214, _, rfl, rfl, zw214⟩
  | 215, _ => exact ⟨zm215, _, rfl, rfl, zw215⟩
  | 216, _ => exact ⟨zm216, _, rfl, rfl, zw216⟩
  | 217, _ => exact ⟨zm217, _, rfl, rfl, zw217⟩
  | 218, _ => exact ⟨zm218, _, rfl, rfl, zw218⟩
  | 219, _ => exact ⟨zm219, _, rfl, rfl, zw219⟩
  | 220, _ => exact ⟨zm220, _, rfl, rfl, zw220⟩
  | 221, _ => exact ⟨zm221, _, rfl, rfl, zw221⟩
  | 222, _ => exact ⟨zm222, _, rfl, rfl, zw222⟩
  | 223, _ => exact ⟨zm223, _, rfl, rfl, zw223⟩
  | 224, _ => exact ⟨zm224, _, rfl, rfl, zw224⟩
  | 225, _ => exact ⟨zm225, _, rfl, rfl, zw225⟩
  | 226, _ => exact ⟨zm226, _, rfl, rfl, zw226⟩
  | 227, _ => exact ⟨zm227, _, rfl, rfl, zw227⟩
  | 228, _ => exact ⟨zm228, _, rfl, rfl, zw228⟩
  | 229, _ => exact ⟨zm229, _, rfl, rfl, zw229⟩
  | 230, _ => exact ⟨zm230, _, rfl, rfl, zw230⟩
  | 231, _ => exact ⟨zm231, _, rfl, rfl, zw231⟩
  | 232, _ => exact ⟨zm232, _, rfl, rfl, zw232⟩
  | 233, _ => exact ⟨zm233, _, rfl, rfl, zw233⟩
  | 234, _ => exact ⟨zm234, _, rfl, rfl, zw234⟩
  | 235, _ => exact ⟨zm235, _, rfl, rfl, zw235⟩
  | 236, _ => exact ⟨zm236, _, rfl, rfl, zw236⟩
  | 237, _ => exact ⟨zm237, _, rfl, rfl, zw237⟩
  | 238, _ => exact ⟨zm238, _, rfl, rfl, zw238⟩
  | 239, _ => exact ⟨zm239, _, rfl, rfl, zw239⟩
  | 240, _ => exact ⟨zm240, _, rfl, rfl, zw240⟩
  | 241, _ => exact ⟨zm241, _, rfl, rfl, zw241⟩
  | 242, _ => exact ⟨zm242, _, rfl, rfl, zw242⟩
  | 243, _ => exact ⟨zm243, _, rfl, rfl, zw243⟩
  | 244, _ => exact ⟨zm244, _, rfl, rfl, zw244⟩
  | 245, _ => exact ⟨zm245, _, rfl, rfl, zw245⟩
  | 246, _ => exact ⟨zm246, _, rfl, rfl, zw246⟩
  | 247, _ => exact ⟨zm247, _, rfl, rfl, zw247⟩
  | 248, _ => exact ⟨zm248, _, rfl, rfl, zw248⟩
  | 249, _ => exact ⟨zm249, _, rfl, rfl, zw249⟩
  | 250, _ => exact ⟨zm250, _, rfl, rfl, zw250⟩
  | 251, _ => exact ⟨zm251, _, rfl, rfl, zw251⟩
  | 252, _ => exact ⟨zm252, _, rfl, rfl, zw252⟩
  | 253, _ => exact ⟨zm253, _, rfl, rfl, zw253⟩
  | 254, _ => exact ⟨zm254, _, rfl, rfl, zw254⟩
  | 255, _ => exact ⟨zm255, _, rfl, rfl, zw255⟩
  | 256, _ => exact ⟨zm256, _, rfl, rfl, zw256⟩
  | 257, _ => exact ⟨zm257, _, rfl, rfl, zw257⟩
  | 258, _ => exact ⟨zm258, _, rfl, rfl, zw258⟩
  | 259, _ => exact ⟨zm259, _, rfl, rfl, zw259⟩
  | 260, _ => exact ⟨zm260, _, rfl, rfl, zw260⟩
  | 261, _ => exact ⟨zm261, _, rfl, rfl, zw261⟩
  | 262, _ => exact ⟨zm262, _, rfl, rfl, zw262⟩
  | 263, _ => exact ⟨zm263, _, rfl, rfl, zw263⟩
  | 264, _ => exact ⟨zm264, _, rfl, rfl, zw264⟩
  | 265, _ => exact ⟨zm265, _, rfl, rfl, zw265⟩
  | 266, _ => exact ⟨zm266, _, rfl, rfl, zw266⟩
  | 267, _ => exact ⟨zm267, _, rfl, rfl, zw267⟩
  | 268, _ => exact ⟨zm268, _, rfl, rfl, zw268⟩
  | 269, _ => exact ⟨zm269, _, rfl, rfl, zw269⟩
  | 270, _ => exact ⟨zm270, _, rfl, rfl, zw270⟩
  | 271, _ => exact ⟨zm271, _, rfl, rfl, zw271⟩
  | 272, _ => exact ⟨zm272, _, rfl, rfl, zw272⟩
  | 273, _ => exact ⟨zm273, _, rfl, rfl, zw273⟩
  | 274, _ => exact ⟨zm274, _, rfl, rfl, zw274⟩
  | 275, _ => exact ⟨zm275, _, rfl, rfl, zw275⟩
  | 276, _ => exact ⟨zm276, _, rfl, rfl, zw276⟩
  | 277, _ => exact ⟨zm277, _, rfl, rfl, zw277⟩
  | 278, _ => exact ⟨zm278, _, rfl, rfl, zw278⟩
  | 279, _ => exact ⟨zm279, _, rfl, rfl, zw279⟩
  | 280, _ => exact ⟨zm280, _, rfl, rfl, zw280⟩
  | 281, _ => exact ⟨zm281, _, rfl, rfl, zw281⟩
  | 282, _ => exact ⟨zm282, _, rfl, rfl, zw282⟩
  | 283, _ => exact ⟨zm283, _, rfl, rfl, zw283⟩
  | 284, _ => exact ⟨zm284, _, rfl, rfl, zw284⟩
  | 285, _ => exact ⟨zm285, _, rfl, rfl, zw285⟩
  | 286, _ => exact ⟨zm286, _, rfl, rfl, zw286⟩
  | 287, _ => exact ⟨zm287, _, rfl, rfl, zw287⟩
  | 288, _ => exact ⟨zm288, _, rfl, rfl, zw288⟩
  | 289, _ => exact ⟨zm289, _, rfl, rfl, zw289⟩
  | n + 290, h => omega
