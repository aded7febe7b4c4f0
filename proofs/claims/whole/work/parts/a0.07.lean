theorem zk140 : zchkM zm140 = true := by decide +kernel
theorem zw140 : zmw zm140 (1052, 0, 1050, 1051, 125) = true := by decide +kernel
theorem zk141 : zchkM zm141 = true := by decide +kernel
theorem zw141 : zmw zm141 (1056, 0, 1055, 29, 125) = true := by decide +kernel
theorem zk142 : zchkM zm142 = true := by decide +kernel
theorem zw142 : zmw zm142 (1078, 0, 1076, 1077, 125) = true := by decide +kernel
theorem zk143 : zchkM zm143 = true := by decide +kernel
theorem zw143 : zmw zm143 (1082, 0, 1080, 1081, 125) = true := by decide +kernel
theorem zk144 : zchkM zm144 = true := by decide +kernel
theorem zw144 : zmw zm144 (1105, 0, 1103, 1104, 125) = true := by decide +kernel
theorem zk145 : zchkM zm145 = true := by decide +kernel
theorem zw145 : zmw zm145 (1120, 0, 1118, 1119, 125) = true := by decide +kernel
theorem zk146 : zchkM zm146 = true := by decide +kernel
theorem zw146 : zmw zm146 (1132, 0, 1130, 1131, 125) = true := by decide +kernel
theorem zk147 : zchkM zm147 = true := by decide +kernel
theorem zw147 : zmw zm147 (1150, 0, 1148, 1149, 125) = true := by decide +kernel
theorem zk148 : zchkM zm148 = true := by decide +kernel
theorem zw148 : zmw zm148 (1154, 0, 1152, 1153, 125) = true := by decide +kernel
theorem zk149 : zchkM zm149 = true := by decide +kernel
theorem zw149 : zmw zm149 (1167, 0, 1165, 1166, 125) = true := by decide +kernel
theorem zk150 : zchkM zm150 = true := by decide +kernel
theorem zw150 : zmw zm150 (1177, 0, 1175, 1176, 125) = true := by decide +kernel
theorem zk151 : zchkM zm151 = true := by decide +kernel
theorem zw151 : zmw zm151 (1193, 0, 1191, 1192, 125) = true := by decide +kernel
theorem zk152 : zchkM zm152 = true := by decide +kernel
theorem zw152 : zmw zm152 (1197, 0, 1195, 1196, 125) = true := by decide +kernel
theorem zk153 : zchkM zm153 = true := by decide +kernel
theorem zw153 : zmw zm153 (1210, 0, 1208, 1209, 125) = true := by decide +kernel
theorem zk154 : zchkM zm154 = true := by decide +kernel
theorem zw154 : zmw zm154 (1214, 0, 1212, 1213, 125) = true := by decide +kernel
theorem zk155 : zchkM zm155 = true := by decide +kernel
theorem zw155 : zmw zm155 (1227, 0, 1225, 1226, 125) = true := by decide +kernel
theorem zk156 : zchkM zm156 = true := by decide +kernel
theorem zw156 : zmw zm156 (1239, 0, 1237, 1238, 125) = true := by decide +kernel
theorem zk157 : zchkM zm157 = true := by decide +kernel
theorem zw157 : zmw zm157 (1246, 0, 1244, 1245, 125) = true := by decide +kernel
theorem zk158 : zchkM zm158 = true := by decide +kernel
theorem zw158 : zmw zm158 (1260, 0, 1258, 1259, 125) = true := by decide +kernel
theorem zk159 : zchkM zm159 = true := by decide +kernel
theorem zw159 : zmw zm159 (1268, 0, 1266, 1267, 125) = true := by decide +kernel
