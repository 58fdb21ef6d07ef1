set_option maxRecDepth 20000 in
theorem ggL_law_X11_delay : GoodIn wsL_law wsX11_delay := goodIn_r _ [1041, 20, 244, 47, 1042, 1043, 1044, 46, 1045, 145, 1046, 1047, 1048, 1049, 1050, 1051, 1033, 142, 1052, 1053, 1054, 1055, 1056, 284, 285, 286, 144, 140, 139, 141, 1057, 1058, 1059, 1060, 1061, 1062, 1063, 1064, 1065, 1066, 1067, 1068, 1148, 1149, 1150, 1151, 1152, 1153, 1154, 1155, 1156, 1157, 1158, 1159, 1160, 1161, 1162, 1163, 1164, 1250, 1251, 1252, 1253, 1254, 1255, 1256, 1257, 1294, 1295, 1296, 1297, 1298, 1299, 1300, 1301, 1302] rfl (by decide +kernel)
set_option maxRecDepth 20000 in
theorem gL_law_X11_delay : GoodIn wsL_law (wsV RL 123 RX11 yX11_delay wsX11_delay) := goodIn_app (goodIn_r _ [1038, 1039, 1040, 2] rfl (by decide +kernel)) ggL_law_X11_delay
set_option maxRecDepth 20000 in
theorem ggL_law_X12_delay : GoodIn wsL_law wsX12_delay := goodIn_r _ [1072, 211, 155, 195, 235, 236, 5, 237, 1073, 1074, 1075, 1076, 995, 250, 194, 191, 192, 193, 1077, 1078, 1079, 1080, 1165, 1166, 1167, 1168, 1169, 1170, 1171, 1172, 1173, 1174, 1175, 1176, 1177, 1178, 1179, 1180, 1181, 1182, 1183, 1184, 1185, 1186, 1187, 1188, 1189, 1190, 1191, 1192, 1193, 1194, 1195, 1196, 1197, 1198, 1199, 1200, 1201, 1202, 1203, 1204, 1205, 1206, 1207, 1208, 1209, 1210, 1211, 1212, 1213, 1214, 1215, 1216, 1217, 1218, 1219, 1220, 1221, 1222, 1223, 1224, 1225, 1226, 1227, 1228, 1229, 1230, 1231, 1232, 1233, 1234, 1235, 1236, 1237, 1238, 1239, 1240, 1241, 1242, 1243, 1244, 1245, 1246, 1247] rfl (by decide +kernel)
set_option maxRecDepth 20000 in
theorem gL_law_X12_delay : GoodIn wsL_law (wsV RL 126 RX12 yX12_delay wsX12_delay) := goodIn_app (goodIn_r _ [1069, 1070, 1071, 5] rfl (by decide +kernel)) ggL_law_X12_delay
set_option maxRecDepth 20000 in
theorem ggL_law_X11_look : GoodIn wsL_law wsX11_look := goodIn_r _ [1084, 47, 20, 244, 1042, 1043, 1044, 46, 1045, 145, 1046, 1047, 1048, 1049, 1050, 1051, 1033, 142, 1052, 1053, 1054, 1055, 1056, 284, 285, 286, 144, 140, 139, 141, 1057, 1058, 1059, 1060, 1085, 1086, 1087, 1088, 1089, 1066, 1067, 1068, 1090, 1062, 1063, 1064, 1148, 1149, 1150, 1151, 1152, 1153, 1154, 1155, 1156, 1157, 1158, 1159, 1160, 1161, 1162, 1163, 1164, 1250, 1251, 1252, 1253, 1254, 1255, 1256, 1257, 1294, 1295, 1296, 1297, 1298, 1299, 1300, 1301, 1302] rfl (by decide +kernel)
set_option maxRecDepth 20000 in
theorem gL_law_X11_look : GoodIn wsL_law (wsV RL 127 RX11 yX11_look wsX11_look) := goodIn_app (goodIn_r _ [1081, 1082, 1083, 2] rfl (by decide +kernel)) ggL_law_X11_look
set_option maxRecDepth 20000 in
theorem ggL_law_X12_look : GoodIn wsL_law wsX12_look := goodIn_r _ [1094, 211, 155, 195, 1073, 1074, 1075, 5, 1076, 995, 250, 194, 191, 192, 193, 1077, 1078, 1079, 1080, 1165, 1166, 1167, 1168, 1169, 1170, 1171, 1172, 1173, 1174, 1175, 1176, 1177, 1178, 1179, 1180, 1181, 1182, 1183, 1184, 1185, 1186, 1187, 1188, 1189, 1190, 1191, 1192, 1193, 1194, 1195, 1196, 1197, 1198, 1199, 1200, 1201, 1202, 1203, 1204, 1205, 1206, 1207, 1208, 1209, 1210, 1211, 1212, 1213, 1214, 1215, 1216, 1217, 1218, 1219, 1220, 1221, 1222, 1223, 1224, 1225, 1226, 1227, 1228, 1229, 1230, 1231, 1232, 1233, 1234, 1235, 1236, 1237, 1238, 1239, 1240, 1241, 1242, 1243, 1244, 1245, 1246, 1247] rfl (by decide +kernel)
set_option maxRecDepth 20000 in
theorem gL_law_X12_look : GoodIn wsL_law (wsV RL 130 RX12 yX12_look wsX12_look) := goodIn_app (goodIn_r _ [1091, 1092, 1093, 5] rfl (by decide +kernel)) ggL_law_X12_look
set_option maxRecDepth 20000 in
theorem ggL_law_X11_hills : GoodIn wsL_law wsX11_hills := goodIn_r _ [1098, 51, 16, 201, 1099, 1100, 1101, 1102, 50, 1103, 1104, 1105, 1106, 149, 1107, 1108, 1109, 1110, 1111, 1112, 984, 985, 986, 987, 988, 989, 1113, 1114, 1115, 1116, 1117, 1118, 1119, 1120, 1121, 1148, 1149, 1150, 1151, 1152, 1153, 1154, 1155, 1156, 1157, 1158, 1159, 1160, 1161, 1162, 1163, 1164, 1248, 1249, 1303, 1304, 1305] rfl (by decide +kernel)
set_option maxRecDepth 20000 in
theorem gL_law_X11_hills : GoodIn wsL_law (wsV RL 131 RX11 yX11_hills wsX11_hills) := goodIn_app (goodIn_r _ [1095, 1096, 1097, 2] rfl (by decide +kernel)) ggL_law_X11_hills
set_option maxRecDepth 20000 in
theorem ggL_law_X12_hills : GoodIn wsL_law wsX12_hills := goodIn_r _ [1125, 211, 196, 154, 1126, 464, 465, 466, 5, 467, 212, 235, 236, 237, 1127, 1128, 1129, 1130, 1165, 1166, 1167, 1168, 1169, 1170, 1171, 1172, 1173, 1174, 1175, 1176, 1177, 1178, 1179, 1180, 1181, 1182, 1183, 1184, 1185, 1186, 1187, 1188, 1189, 1190, 1191, 1192, 1193, 1194, 1195, 1196, 1197, 1198, 1199, 1200, 1201, 1202, 1203, 1204, 1205, 1206, 1207, 1208, 1209, 1210, 1211, 1212, 1213, 1214, 1215, 1216, 1217, 1218, 1219, 1220, 1221, 1222, 1223, 1224, 1225, 1226, 1227, 1228, 1229, 1230, 1231, 1232, 1233, 1234, 1235, 1236, 1237, 1238, 1239, 1240, 1241, 1242, 1243, 1244, 1245, 1246, 1247] rfl (by decide +kernel)
set_option maxRecDepth 20000 in
theorem gL_law_X12_hills : GoodIn wsL_law (wsV RL 134 RX12 yX12_hills wsX12_hills) := goodIn_app (goodIn_r _ [1122, 1123, 1124, 5] rfl (by decide +kernel)) ggL_law_X12_hills
set_option maxRecDepth 20000 in
theorem ggL_law_X11_hillSet : GoodIn wsL_law wsX11_hillSet := goodIn_r _ [1134, 1099, 1148, 1149, 1150, 1151, 1152, 1153, 1154, 1155, 1156, 1157, 1158, 1159, 1160, 1161, 1162, 1163, 1164] rfl (by decide +kernel)
set_option maxRecDepth 20000 in
theorem gL_law_X11_hillSet : GoodIn wsL_law (wsV RL 135 RX11 yX11_hillSet wsX11_hillSet) := goodIn_app (goodIn_r _ [1131, 1132, 1133, 2] rfl (by decide +kernel)) ggL_law_X11_hillSet
set_option maxRecDepth 20000 in
theorem ggL_law_X12_hillSet : GoodIn wsL_law wsX12_hillSet := goodIn_r _ [1138, 211, 1126, 1165, 1166, 1167, 1168, 1169, 1170, 1171, 1172, 1173, 1174, 1175, 1176, 1177, 1178, 1179, 1180, 1181, 1182, 1183, 1184, 1185, 1186, 1187, 1188, 1189, 1190, 1191, 1192, 1193, 1194, 1195, 1196, 1197, 1198, 1199, 1200, 1201, 1202, 1203, 1204, 1205, 1206, 1207, 1208, 1209, 1210, 1211, 1212, 1213, 1214, 1215, 1216, 1217, 1218, 1219, 1220, 1221, 1222, 1223, 1224, 1225, 1226, 1227, 1228, 1229, 1230, 1231, 1232, 1233, 1234, 1235, 1236, 1237, 1238, 1239, 1240, 1241, 1242, 1243, 1244, 1245, 1246, 1247] rfl (by decide +kernel)
set_option maxRecDepth 20000 in
theorem gL_law_X12_hillSet : GoodIn wsL_law (wsV RL 138 RX12 yX12_hillSet wsX12_hillSet) := goodIn_app (goodIn_r _ [1135, 1136, 1137, 5] rfl (by decide +kernel)) ggL_law_X12_hillSet
set_option maxRecDepth 20000 in
theorem ggL_law_X11_count : GoodIn wsL_law wsX11_count := goodIn_r _ [1142, 229, 20, 244, 242, 36, 856, 47, 243, 1143, 16, 201, 1148, 1149, 1150, 1151, 1152, 1153, 1154, 1155, 1156, 1157, 1158, 1159, 1160, 1161, 1162, 1163, 1164, 1250, 1251, 1252, 1253, 1254, 1255, 1256, 1257, 1282, 1283, 1284, 1285, 1294, 1295, 1296, 1297, 1298, 1299, 1300, 1301, 1302, 1248, 1249] rfl (by decide +kernel)
set_option maxRecDepth 20000 in
theorem gL_law_X11_count : GoodIn wsL_law (wsV RL 139 RX11 yX11_count wsX11_count) := goodIn_app (goodIn_r _ [1139, 1140, 1141, 2] rfl (by decide +kernel)) ggL_law_X11_count
set_option maxRecDepth 20000 in
theorem ggL_law_X12_count : GoodIn wsL_law wsX12_count := goodIn_r _ [1147, 211, 234, 155, 249, 880, 250, 567, 212, 1165, 1166, 1167, 1168, 1169, 1170, 1171, 1172, 1173, 1174, 1175, 1176, 1177, 1178, 1179, 1180, 1181, 1182, 1183, 1184, 1185, 1186, 1187, 1188, 1189, 1190, 1191, 1192, 1193, 1194, 1195, 1196, 1197, 1198, 1199, 1200, 1201, 1202, 1203, 1204, 1205, 1206, 1207, 1208, 1209, 1210, 1211, 1212, 1213, 1214, 1215, 1216, 1217, 1218, 1219, 1220, 1221, 1222, 1223, 1224, 1225, 1226, 1227, 1228, 1229, 1230, 1231, 1232, 1233, 1234, 1235, 1236, 1237, 1238, 1239, 1240, 1241, 1242, 1243, 1244, 1245, 1246, 1247] rfl (by decide +kernel)
set_option maxRecDepth 20000 in
theorem gL_law_X12_count : GoodIn wsL_law (wsV RL 142 RX12 yX12_count wsX12_count) := goodIn_app (goodIn_r _ [1144, 1145, 1146, 5] rfl (by decide +kernel)) ggL_law_X12_count
