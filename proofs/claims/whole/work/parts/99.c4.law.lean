set_option maxRecDepth 20000 in
theorem ggL_law_X12_year : GoodIn wsL_law wsX12_year := goodIn_r _ [969, 211, 970, 185, 154, 186, 464, 465, 466, 5, 467, 212, 881, 882, 883, 884, 235, 236, 237, 478, 479, 480, 1165, 1166, 1167, 1168, 1169, 1170, 1171, 1172, 1173, 1174, 1175, 1176, 1177, 1178, 1179, 1180, 1181, 1182, 1183, 1184, 1185, 1186, 1187, 1188, 1189, 1190, 1191, 1192, 1193, 1194, 1195, 1196, 1197, 1198, 1199, 1200, 1201, 1202, 1203, 1204, 1205, 1206, 1207, 1208, 1209, 1210, 1211, 1212, 1213, 1214, 1215, 1216, 1217, 1218, 1219, 1220, 1221, 1222, 1223, 1224, 1225, 1226, 1227, 1228, 1229, 1230, 1231, 1232, 1233, 1234, 1235, 1236, 1237, 1238, 1239, 1240, 1241, 1242, 1243, 1244, 1245, 1246, 1247] rfl (by decide +kernel)
set_option maxRecDepth 20000 in
theorem gL_law_X12_year : GoodIn wsL_law (wsV RL 101 RX12 yX12_year wsX12_year) := goodIn_app (goodIn_r _ [966, 967, 968, 5] rfl (by decide +kernel)) ggL_law_X12_year
set_option maxRecDepth 20000 in
theorem ggL_law_X11_small : GoodIn wsL_law wsX11_small := goodIn_r _ [974, 41, 36, 56, 889, 906, 907, 908, 39, 909, 896, 895, 133, 132, 134, 288, 2, 289, 910, 911, 912, 35, 913, 865, 126, 868, 869, 870, 871, 125, 975, 976, 977, 978, 979, 980, 981, 982, 922, 930, 983, 984, 985, 986, 987, 988, 989, 990, 919, 920, 921, 135, 923, 366, 285, 367, 924, 925, 926, 927, 928, 929, 284, 286, 918, 1148, 1149, 1150, 1151, 1152, 1153, 1154, 1155, 1156, 1157, 1158, 1159, 1160, 1161, 1162, 1163, 1164, 1286, 1287, 1288, 1289, 1290, 1291, 1292, 1293, 1282, 1283, 1284, 1285] rfl (by decide +kernel)
set_option maxRecDepth 20000 in
theorem gL_law_X11_small : GoodIn wsL_law (wsV RL 102 RX11 yX11_small wsX11_small) := goodIn_app (goodIn_r _ [971, 972, 973, 2] rfl (by decide +kernel)) ggL_law_X11_small
set_option maxRecDepth 20000 in
theorem ggL_law_X12_small : GoodIn wsL_law wsX12_small := goodIn_r _ [994, 211, 995, 880, 970, 186, 943, 187, 185, 190, 235, 236, 5, 237, 945, 946, 947, 948, 188, 184, 949, 950, 951, 952, 183, 1165, 1166, 1167, 1168, 1169, 1170, 1171, 1172, 1173, 1174, 1175, 1176, 1177, 1178, 1179, 1180, 1181, 1182, 1183, 1184, 1185, 1186, 1187, 1188, 1189, 1190, 1191, 1192, 1193, 1194, 1195, 1196, 1197, 1198, 1199, 1200, 1201, 1202, 1203, 1204, 1205, 1206, 1207, 1208, 1209, 1210, 1211, 1212, 1213, 1214, 1215, 1216, 1217, 1218, 1219, 1220, 1221, 1222, 1223, 1224, 1225, 1226, 1227, 1228, 1229, 1230, 1231, 1232, 1233, 1234, 1235, 1236, 1237, 1238, 1239, 1240, 1241, 1242, 1243, 1244, 1245, 1246, 1247] rfl (by decide +kernel)
set_option maxRecDepth 20000 in
theorem gL_law_X12_small : GoodIn wsL_law (wsV RL 105 RX12 yX12_small wsX12_small) := goodIn_app (goodIn_r _ [991, 992, 993, 5] rfl (by decide +kernel)) ggL_law_X12_small
set_option maxRecDepth 20000 in
theorem ggL_law_X11_smallSet : GoodIn wsL_law wsX11_smallSet := goodIn_r _ [999, 56, 1148, 1149, 1150, 1151, 1152, 1153, 1154, 1155, 1156, 1157, 1158, 1159, 1160, 1161, 1162, 1163, 1164] rfl (by decide +kernel)
set_option maxRecDepth 20000 in
theorem gL_law_X11_smallSet : GoodIn wsL_law (wsV RL 106 RX11 yX11_smallSet wsX11_smallSet) := goodIn_app (goodIn_r _ [996, 997, 998, 2] rfl (by decide +kernel)) ggL_law_X11_smallSet
set_option maxRecDepth 20000 in
theorem ggL_law_X12_smallSet : GoodIn wsL_law wsX12_smallSet := goodIn_r _ [1003, 211, 190, 1165, 1166, 1167, 1168, 1169, 1170, 1171, 1172, 1173, 1174, 1175, 1176, 1177, 1178, 1179, 1180, 1181, 1182, 1183, 1184, 1185, 1186, 1187, 1188, 1189, 1190, 1191, 1192, 1193, 1194, 1195, 1196, 1197, 1198, 1199, 1200, 1201, 1202, 1203, 1204, 1205, 1206, 1207, 1208, 1209, 1210, 1211, 1212, 1213, 1214, 1215, 1216, 1217, 1218, 1219, 1220, 1221, 1222, 1223, 1224, 1225, 1226, 1227, 1228, 1229, 1230, 1231, 1232, 1233, 1234, 1235, 1236, 1237, 1238, 1239, 1240, 1241, 1242, 1243, 1244, 1245, 1246, 1247] rfl (by decide +kernel)
set_option maxRecDepth 20000 in
theorem gL_law_X12_smallSet : GoodIn wsL_law (wsV RL 109 RX12 yX12_smallSet wsX12_smallSet) := goodIn_app (goodIn_r _ [1000, 1001, 1002, 5] rfl (by decide +kernel)) ggL_law_X12_smallSet
set_option maxRecDepth 20000 in
theorem ggL_law_L_right : GoodIn wsL_law wsL_right := goodIn_ca (goodIn_r _ [1007, 1008, 1009, 1010, 1011, 2, 1012, 1013, 1014, 1015] rfl (by decide +kernel)) (goodIn_sub (fun _ h => List.mem_append_right _ h) (by decide +kernel))
set_option maxRecDepth 20000 in
theorem gL_law_L_right : GoodIn wsL_law (va_wsS RL 110 yL_right wsL_right) := goodIn_app (goodIn_r _ [1004, 1005, 1006] rfl (by decide +kernel)) ggL_law_L_right
set_option maxRecDepth 20000 in
theorem ggL_law_X12_right : GoodIn wsL_law wsX12_right := goodIn_r _ [1019, 211, 1020, 235, 236, 5, 237, 1165, 1166, 1167, 1168, 1169, 1170, 1171, 1172, 1173, 1174, 1175, 1176, 1177, 1178, 1179, 1180, 1181, 1182, 1183, 1184, 1185, 1186, 1187, 1188, 1189, 1190, 1191, 1192, 1193, 1194, 1195, 1196, 1197, 1198, 1199, 1200, 1201, 1202, 1203, 1204, 1205, 1206, 1207, 1208, 1209, 1210, 1211, 1212, 1213, 1214, 1215, 1216, 1217, 1218, 1219, 1220, 1221, 1222, 1223, 1224, 1225, 1226, 1227, 1228, 1229, 1230, 1231, 1232, 1233, 1234, 1235, 1236, 1237, 1238, 1239, 1240, 1241, 1242, 1243, 1244, 1245, 1246, 1247] rfl (by decide +kernel)
set_option maxRecDepth 20000 in
theorem gL_law_X12_right : GoodIn wsL_law (wsV RL 115 RX12 yX12_right wsX12_right) := goodIn_app (goodIn_r _ [1016, 1017, 1018, 5] rfl (by decide +kernel)) ggL_law_X12_right
set_option maxRecDepth 20000 in
theorem ggL_law_X12_thrown : GoodIn wsL_law wsX12_thrown := goodIn_r _ [1024, 211, 1165, 1166, 1167, 1168, 1169, 1170, 1171, 1172, 1173, 1174, 1175, 1176, 1177, 1178, 1179, 1180, 1181, 1182, 1183, 1184, 1185, 1186, 1187, 1188, 1189, 1190, 1191, 1192, 1193, 1194, 1195, 1196, 1197, 1198, 1199, 1200, 1201, 1202, 1203, 1204, 1205, 1206, 1207, 1208, 1209, 1210, 1211, 1212, 1213, 1214, 1215, 1216, 1217, 1218, 1219, 1220, 1221, 1222, 1223, 1224, 1225, 1226, 1227, 1228, 1229, 1230, 1231, 1232, 1233, 1234, 1235, 1236, 1237, 1238, 1239, 1240, 1241, 1242, 1243, 1244, 1245, 1246, 1247] rfl (by decide +kernel)
set_option maxRecDepth 20000 in
theorem gL_law_X12_thrown : GoodIn wsL_law (wsV RL 116 RX12 yX12_thrown wsX12_thrown) := goodIn_app (goodIn_r _ [1021, 1022, 1023, 5] rfl (by decide +kernel)) ggL_law_X12_thrown
set_option maxRecDepth 20000 in
theorem ggL_law_X11_note : GoodIn wsL_law wsX11_note := goodIn_r _ [1028, 47, 243, 20, 244, 229, 1029, 1030, 1031, 46, 1032, 1033, 139, 140, 141, 142, 1148, 1149, 1150, 1151, 1152, 1153, 1154, 1155, 1156, 1157, 1158, 1159, 1160, 1161, 1162, 1163, 1164, 1294, 1295, 1296, 1297, 1298, 1299, 1300, 1301, 1302, 1250, 1251, 1252, 1253, 1254, 1255, 1256, 1257] rfl (by decide +kernel)
set_option maxRecDepth 20000 in
theorem gL_law_X11_note : GoodIn wsL_law (wsV RL 119 RX11 yX11_note wsX11_note) := goodIn_app (goodIn_r _ [1025, 1026, 1027, 2] rfl (by decide +kernel)) ggL_law_X11_note
set_option maxRecDepth 20000 in
theorem ggL_law_X12_note : GoodIn wsL_law wsX12_note := goodIn_r _ [1037, 211, 250, 155, 191, 192, 193, 194, 234, 235, 236, 5, 237, 1165, 1166, 1167, 1168, 1169, 1170, 1171, 1172, 1173, 1174, 1175, 1176, 1177, 1178, 1179, 1180, 1181, 1182, 1183, 1184, 1185, 1186, 1187, 1188, 1189, 1190, 1191, 1192, 1193, 1194, 1195, 1196, 1197, 1198, 1199, 1200, 1201, 1202, 1203, 1204, 1205, 1206, 1207, 1208, 1209, 1210, 1211, 1212, 1213, 1214, 1215, 1216, 1217, 1218, 1219, 1220, 1221, 1222, 1223, 1224, 1225, 1226, 1227, 1228, 1229, 1230, 1231, 1232, 1233, 1234, 1235, 1236, 1237, 1238, 1239, 1240, 1241, 1242, 1243, 1244, 1245, 1246, 1247] rfl (by decide +kernel)
set_option maxRecDepth 20000 in
theorem gL_law_X12_note : GoodIn wsL_law (wsV RL 122 RX12 yX12_note wsX12_note) := goodIn_app (goodIn_r _ [1034, 1035, 1036, 5] rfl (by decide +kernel)) ggL_law_X12_note
