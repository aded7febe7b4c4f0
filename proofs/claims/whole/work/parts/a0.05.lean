theorem zk100 : zchkM zm100 = true := by decide +kernel
theorem zw100 : zmw zm100 (1135, 1, 1134, 0, 137) = true := by decide +kernel
theorem zk101 : zchkM zm101 = true := by decide +kernel
theorem zw101 : zmw zm101 (1138, 1, 1137, 0, 137) = true := by decide +kernel
theorem zk102 : zchkM zm102 = true := by decide +kernel
theorem zw102 : zmw zm102 (1157, 1, 1156, 0, 137) = true := by decide +kernel
theorem zk103 : zchkM zm103 = true := by decide +kernel
theorem zw103 : zmw zm103 (1160, 1, 1159, 0, 137) = true := by decide +kernel
theorem zk104 : zchkM zm104 = true := by decide +kernel
theorem zw104 : zmw zm104 (1170, 1, 1169, 0, 137) = true := by decide +kernel
theorem zk105 : zchkM zm105 = true := by decide +kernel
theorem zw105 : zmw zm105 (1173, 1, 1172, 0, 137) = true := by decide +kernel
theorem zk106 : zchkM zm106 = true := by decide +kernel
theorem zw106 : zmw zm106 (1181, 0, 1179, 1180, 137) = true := by decide +kernel
theorem zk107 : zchkM zm107 = true := by decide +kernel
theorem zw107 : zmw zm107 (1185, 0, 1183, 1184, 137) = true := by decide +kernel
theorem zk108 : zchkM zm108 = true := by decide +kernel
theorem zw108 : zmw zm108 (1189, 0, 1187, 1188, 137) = true := by decide +kernel
theorem zk109 : zchkM zm109 = true := by decide +kernel
theorem zw109 : zmw zm109 (1201, 0, 1199, 1200, 137) = true := by decide +kernel
theorem zk110 : zchkM zm110 = true := by decide +kernel
theorem zw110 : zmw zm110 (1205, 0, 1204, 34, 137) = true := by decide +kernel
theorem zk111 : zchkM zm111 = true := by decide +kernel
theorem zw111 : zmw zm111 (1218, 0, 1216, 1217, 137) = true := by decide +kernel
theorem zk112 : zchkM zm112 = true := by decide +kernel
theorem zw112 : zmw zm112 (1223, 0, 1222, 35, 137) = true := by decide +kernel
theorem zk113 : zchkM zm113 = true := by decide +kernel
theorem zw113 : zmw zm113 (1231, 0, 1229, 1230, 137) = true := by decide +kernel
theorem zk114 : zchkM zm114 = true := by decide +kernel
theorem zw114 : zmw zm114 (1235, 0, 1233, 1234, 137) = true := by decide +kernel
theorem zk115 : zchkM zm115 = true := by decide +kernel
theorem zw115 : zmw zm115 (1242, 1, 1241, 0, 137) = true := by decide +kernel
theorem zk116 : zchkM zm116 = true := by decide +kernel
theorem zw116 : zmw zm116 (1250, 1, 1249, 0, 137) = true := by decide +kernel
theorem zk117 : zchkM zm117 = true := by decide +kernel
theorem zw117 : zmw zm117 (1253, 1, 1252, 0, 137) = true := by decide +kernel
theorem zk118 : zchkM zm118 = true := by decide +kernel
theorem zw118 : zmw zm118 (1256, 1, 1255, 0, 137) = true := by decide +kernel
theorem zk119 : zchkM zm119 = true := by decide +kernel
theorem zw119 : zmw zm119 (159, 2, 158, 0, 126) = true := by decide +kernel
