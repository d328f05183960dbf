def wsL_law : List Cond := wsL_law0 ++ (vx_atS RX5 44 "java/lang/IllegalArgumentException" ["java/lang/RuntimeException", "java/lang/Exception"]).filter goodWord ++ (vx_atS RX5 58 "java/lang/IllegalStateException" ["java/lang/RuntimeException", "java/lang/Exception"]).filter goodWord ++ (vx_atS RX5 131 "java/lang/IndexOutOfBoundsException" ["java/lang/RuntimeException", "java/lang/Exception"]).filter goodWord
set_option maxRecDepth 20000 in
theorem kA1 : GoodIn lw_tbl wsL_law0_r1 := goodIn_r _ [102, 103, 73, 1122, 1123, 78, 1367, 104, 105, 106, 107, 108, 109, 110, 111, 74, 169, 167, 117, 77, 170, 171, 172, 173] (by decide +kernel) (by decide +kernel)
set_option maxRecDepth 20000 in
theorem kA2 : GoodIn lw_tbl wsL_law0_r2 := goodIn_r _ [174, 113, 114, 115, 116, 144, 146, 142, 165, 148, 166, 149, 150, 151, 118, 119, 120, 128, 130, 121, 122, 76, 123, 132] (by decide +kernel) (by decide +kernel)
set_option maxRecDepth 20000 in
theorem kA3 : GoodIn lw_tbl wsL_law0_r3 := goodIn_r _ [124, 125, 75, 126, 127, 168, 1124, 1125, 1126, 1127, 1137, 1138, 1139, 1140, 1141, 1143, 1144, 356, 357, 72, 358, 359, 361, 362] (by decide +kernel) (by decide +kernel)
set_option maxRecDepth 20000 in
theorem kA4 : GoodIn lw_tbl wsL_law0_r4 := goodIn_r _ [363, 364, 365, 82, 381, 83, 332, 333, 334, 202, 203, 204, 205, 131, 399, 9, 400, 401, 402, 84, 324, 404, 405, 406] (by decide +kernel) (by decide +kernel)
set_option maxRecDepth 20000 in
theorem kA5 : GoodIn lw_tbl wsL_law0_r5 := goodIn_r _ [409, 413, 415, 407, 418, 421, 423, 426, 408, 443, 444, 445, 446, 133, 134, 447, 449, 10, 450, 451, 453, 11, 454, 455] (by decide +kernel) (by decide +kernel)
set_option maxRecDepth 20000 in
theorem kA6 : GoodIn lw_tbl wsL_law0_r6 := goodIn_r _ [457, 12, 458, 501, 463, 86, 464, 502, 459, 460, 85, 461, 462, 465, 466, 467, 468, 469, 470, 87, 471, 472, 1392, 473] (by decide +kernel) (by decide +kernel)
set_option maxRecDepth 20000 in
theorem kA7 : GoodIn lw_tbl wsL_law0_r7 := goodIn_r _ [488, 489, 490, 491, 492, 494, 495, 496, 497, 498, 500, 499, 88, 503, 505, 13, 506, 1184, 1185, 1186, 1187, 1128, 1130, 1195] (by decide +kernel) (by decide +kernel)
set_option maxRecDepth 20000 in
theorem kA8 : GoodIn lw_tbl wsL_law0_r8 := goodIn_r _ [1188, 1189, 1190, 1191, 1193, 45, 1194, 1180, 1181, 1182, 1183, 507, 508, 509, 510, 511, 512, 513, 514, 316, 318, 5, 319, 240] (by decide +kernel) (by decide +kernel)
set_option maxRecDepth 20000 in
theorem kA9 : GoodIn lw_tbl wsL_law0_r9 := goodIn_r _ [89, 326, 322, 6, 323, 214, 215, 216, 217, 218, 219, 90, 220, 221, 222, 91, 223, 224, 225, 226, 227, 516, 517, 518] (by decide +kernel) (by decide +kernel)
set_option maxRecDepth 20000 in
theorem kA10 : GoodIn lw_tbl wsL_law0_r10 := goodIn_r _ [523, 14, 524, 525, 232, 92, 527, 528, 529, 536, 539, 542, 545, 547, 552, 554, 534, 549, 557, 560, 563, 530, 531, 532] (by decide +kernel) (by decide +kernel)
set_option maxRecDepth 20000 in
theorem kA11 : GoodIn lw_tbl wsL_law0_r11 := goodIn_r _ [533, 535, 1196, 1197, 1198, 1199, 1131, 1200, 1202, 46, 1203, 1204, 1206, 47, 1207, 588, 589, 590, 591, 592, 593, 594, 597, 15] (by decide +kernel) (by decide +kernel)
set_option maxRecDepth 20000 in
theorem kA12 : GoodIn lw_tbl wsL_law0_r12 := goodIn_r _ [598, 599, 1208, 1209, 1210, 1211, 601, 602, 603, 604, 605, 606, 607, 341, 343, 7, 344, 228, 347, 8, 348, 610, 16, 611] (by decide +kernel) (by decide +kernel)
set_option maxRecDepth 20000 in
theorem kA13 : GoodIn lw_tbl wsL_law0_r13 := goodIn_r _ [614, 17, 615, 1212, 1213, 1214, 1215, 1216, 1218, 48, 1219, 1220, 1222, 49, 1223, 616, 617, 618, 619, 620, 621, 622, 623, 632] (by decide +kernel) (by decide +kernel)
set_option maxRecDepth 20000 in
theorem kA14 : GoodIn lw_tbl wsL_law0_r14 := goodIn_r _ [633, 93, 625, 627, 18, 628, 635, 636, 637, 638, 639, 640, 642, 644, 657, 1224, 1225, 1226, 1227, 1129, 1228, 1132, 658, 659] (by decide +kernel) (by decide +kernel)
set_option maxRecDepth 20000 in
theorem kA15 : GoodIn lw_tbl wsL_law0_r15 := goodIn_r _ [660, 661, 662, 663, 664, 666, 668, 19, 669, 672, 20, 673, 206, 208, 0, 209, 675, 677, 21, 678, 336, 679, 94, 681] (by decide +kernel) (by decide +kernel)
set_option maxRecDepth 20000 in
theorem kA16 : GoodIn lw_tbl wsL_law0_r16 := goodIn_r _ [682, 683, 684, 686, 688, 691, 693, 695, 697, 700, 702, 725, 22, 726, 729, 23, 730, 732, 731, 733, 734, 735, 736, 978] (by decide +kernel) (by decide +kernel)
set_option maxRecDepth 20000 in
theorem kA17 : GoodIn lw_tbl wsL_law0_r17 := goodIn_r _ [737, 739, 24, 740, 1229, 1230, 1231, 1232, 1133, 1233, 1235, 50, 1236, 1142, 1237, 1239, 51, 1240, 1241, 1243, 52, 1244, 1245, 1247] (by decide +kernel) (by decide +kernel)
set_option maxRecDepth 20000 in
theorem kA18 : GoodIn lw_tbl wsL_law0_r18 := goodIn_r _ [53, 1248, 1249, 1251, 54, 1252, 1253, 1255, 55, 1256, 1136, 979, 980, 981, 982, 983, 984, 985, 987, 989, 26, 990, 632, 993] (by decide +kernel) (by decide +kernel)
set_option maxRecDepth 20000 in
theorem kA19 : GoodIn lw_tbl wsL_law0_r19 := goodIn_r _ [27, 994, 995, 997, 28, 998, 999, 1001, 29, 1002, 1003, 1005, 30, 1006, 1007, 1009, 31, 1010, 336, 231, 2, 233, 239, 234] (by decide +kernel) (by decide +kernel)
set_option maxRecDepth 20000 in
theorem kA20 : GoodIn lw_tbl wsL_law0_r20 := goodIn_r _ [235, 236, 237, 238, 1011, 1013, 32, 1014, 1015, 1016, 1017, 1018, 1019, 1021, 33, 1022, 1023, 1025, 34, 1026, 1027, 1029, 35, 1030] (by decide +kernel) (by decide +kernel)
set_option maxRecDepth 20000 in
theorem kA21 : GoodIn lw_tbl wsL_law0_r21 := goodIn_r _ [1031, 1033, 36, 1034, 1037, 37, 1038, 1043, 525, 1039, 1041, 38, 1042, 1044, 1045, 1046, 1047, 1048, 1050, 39, 1051, 1054, 40, 1055] (by decide +kernel) (by decide +kernel)
set_option maxRecDepth 20000 in
theorem kA22 : GoodIn lw_tbl wsL_law0_r22 := goodIn_r _ [1056, 1059, 41, 1060, 1061, 1257, 1258, 1259, 1260, 1134, 1261, 1263, 56, 1264, 1265, 1267, 57, 1268, 1269, 1271, 58, 1272, 1273, 1275] (by decide +kernel) (by decide +kernel)
set_option maxRecDepth 20000 in
theorem kA23 : GoodIn lw_tbl wsL_law0_r23 := goodIn_r _ [59, 1276, 1277, 1279, 60, 1280, 1135, 1281, 1283, 61, 1284, 1285, 1287, 62, 1288, 1289, 1291, 63, 1292, 1293, 1295, 64, 1296, 1297] (by decide +kernel) (by decide +kernel)
set_option maxRecDepth 20000 in
theorem kA24 : GoodIn lw_tbl wsL_law0_r24 := goodIn_r _ [1299, 65, 1300, 1301, 1303, 66, 1304, 1305, 1307, 67, 1308, 1062, 1063, 1064, 1065, 351, 352, 353, 1309, 1310, 1311, 1312, 1066, 1067] (by decide +kernel) (by decide +kernel)
set_option maxRecDepth 20000 in
theorem kA25 : GoodIn lw_tbl wsL_law0_r25 := goodIn_r _ [1068, 1069, 199, 200, 201, 210, 212, 1, 213, 1313, 1314, 1315, 1316, 1317, 1319, 68, 1320, 1070, 1071, 1072, 1073, 313, 314, 315] (by decide +kernel) (by decide +kernel)
set_option maxRecDepth 20000 in
theorem kA26 : GoodIn lw_tbl wsL_law0_r26 := goodIn_r _ [1321, 1322, 1323, 1324, 1325, 1327, 69, 1328, 1074, 1075, 1076, 1077, 338, 339, 340, 1329, 1330, 1331, 1332, 1333, 1335, 70, 1336, 1078] (by decide +kernel) (by decide +kernel)
set_option maxRecDepth 20000 in
theorem kA27 : GoodIn lw_tbl wsL_law0_r27 := goodIn_r _ [1079, 1080, 1081, 329, 330, 331, 1337, 1338, 1339, 1340, 1082, 1083, 1084, 1085, 1086, 1087, 1088, 1093, 1091, 42, 1092, 1341, 1342, 1343] (by decide +kernel) (by decide +kernel)
set_option maxRecDepth 20000 in
theorem kA28 : GoodIn lw_tbl wsL_law0_r28 := goodIn_r _ [1344, 1094, 1095, 1096, 1097, 1098, 1099, 1100, 1345, 1346, 1347, 1348, 1101, 1102, 1103, 1104, 1105, 1106, 1107, 1110, 43, 1111, 1112, 1114] (by decide +kernel) (by decide +kernel)
set_option maxRecDepth 20000 in
theorem kA29 : GoodIn lw_tbl wsL_law0_r29 := goodIn_r _ [44, 1115, 1116, 1117, 101, 1118, 1119, 1120, 1121, 1349, 1350, 1351, 1352, 1353, 1355, 71, 1356, 188, 189, 190, 191, 1357, 1358, 1359] (by decide +kernel) (by decide +kernel)
set_option maxRecDepth 20000 in
theorem kA30 : GoodIn lw_tbl wsL_law0_r30 := goodIn_r _ [1360, 192, 193, 194, 195, 196, 197, 198, 308, 310, 4, 311, 312, 328, 337, 350, 1361, 1362, 1363, 1364, 1365, 1366] (by decide +kernel) (by decide +kernel)
set_option maxRecDepth 20000 in
theorem kE_wsX50 : GoodIn lw_tbl wsX50 := goodIn_r _ [175, 177, 179, 181, 183, 185] (by decide +kernel) (by decide +kernel)
set_option maxRecDepth 20000 in
theorem kE_wsX60 : GoodIn lw_tbl wsX60 := goodIn_r _ [1145, 1147, 1149, 1151, 1153, 1155, 1157, 1159, 1161, 1163, 1165, 1167, 1169, 1171, 1173, 1175, 1177] (by decide +kernel) (by decide +kernel)
set_option maxRecDepth 20000 in
theorem kE_wsX20 : GoodIn lw_tbl wsX20 := goodIn_r _ [152, 154, 156, 158, 160, 162] (by decide +kernel) (by decide +kernel)
set_option maxRecDepth 20000 in
theorem kE_wsJx4a65c0 : GoodIn lw_tbl wsJx4a65c0 := goodIn_r _ [139, 135, 137] (by decide +kernel) (by decide +kernel)
set_option maxRecDepth 20000 in
theorem kE_wsX30 : GoodIn lw_tbl wsX30 := goodIn_r _ [428, 430, 432, 434, 436, 438, 440] (by decide +kernel) (by decide +kernel)
set_option maxRecDepth 20000 in
theorem kE_wsX40 : GoodIn lw_tbl wsX40 := goodIn_r _ [565, 567, 569, 571, 573, 575, 577, 579, 581, 583, 585] (by decide +kernel) (by decide +kernel)
set_option maxRecDepth 20000 in
theorem kE_wsX10 : GoodIn lw_tbl wsX10 := goodIn_r _ [646, 648, 650, 652, 654] (by decide +kernel) (by decide +kernel)
set_option maxRecDepth 20000 in
theorem kE_wsX00 : GoodIn lw_tbl wsX00 := goodIn_r _ [704, 706, 708, 710, 712, 714, 716, 718, 720] (by decide +kernel) (by decide +kernel)
theorem kA_nil : GoodIn lw_tbl ([] : List Cond) := fun _ h => absurd h List.not_mem_nil
theorem wsL_law_in0 : ∀ w ∈ wsL_law0, w ∈ lw_tbl := fun w h => ((goodIn_app (goodIn_app (goodIn_app (goodIn_app (goodIn_app (goodIn_app (goodIn_app (goodIn_app (goodIn_app (goodIn_app kA1 (goodIn_app kA2 (goodIn_app kA3 (goodIn_app kA4 (goodIn_app kA5 (goodIn_app kA6 (goodIn_app kA7 (goodIn_app kA8 (goodIn_app kA9 (goodIn_app kA10 (goodIn_app kA11 (goodIn_app kA12 (goodIn_app kA13 (goodIn_app kA14 (goodIn_app kA15 (goodIn_app kA16 (goodIn_app kA17 (goodIn_app kA18 (goodIn_app kA19 (goodIn_app kA20 (goodIn_app kA21 (goodIn_app kA22 (goodIn_app kA23 (goodIn_app kA24 (goodIn_app kA25 (goodIn_app kA26 (goodIn_app kA27 (goodIn_app kA28 (goodIn_app kA29 kA30))))))))))))))))))))))))))))) kE_wsX50) kE_wsX60) kE_wsX20) kE_wsJx4a65c0) kE_wsX30) kE_wsX40) kE_wsX10) kE_wsX00) kA_nil) w h).1
theorem wsL_law_x0 : ∀ w ∈ (vx_atS RX5 44 "java/lang/IllegalArgumentException" ["java/lang/RuntimeException", "java/lang/Exception"]).filter goodWord, w ∈ lw_tbl := by decide +kernel
theorem wsL_law_x1 : ∀ w ∈ (vx_atS RX5 58 "java/lang/IllegalStateException" ["java/lang/RuntimeException", "java/lang/Exception"]).filter goodWord, w ∈ lw_tbl := by decide +kernel
theorem wsL_law_x2 : ∀ w ∈ (vx_atS RX5 131 "java/lang/IndexOutOfBoundsException" ["java/lang/RuntimeException", "java/lang/Exception"]).filter goodWord, w ∈ lw_tbl := by decide +kernel
theorem wsL_law_in : ∀ w ∈ wsL_law, w ∈ lw_tbl := fun w h => (List.mem_append.mp h).elim (fun h => (List.mem_append.mp h).elim (fun h => (List.mem_append.mp h).elim (fun h => wsL_law_in0 w h) (fun h => wsL_law_x0 w h)) (fun h => wsL_law_x1 w h)) (fun h => wsL_law_x2 w h)
theorem inlX0 : ∀ w ∈ wsX00, w ∈ wsL_law := fun _ h => List.mem_append_left _ (List.mem_append_left _ (List.mem_append_left _ (List.mem_append_left _ (List.mem_append_right _ h))))
theorem inX0 : ∀ w ∈ wsX00, w ∈ lw_tbl := fun w h => wsL_law_in w (inlX0 w h)
theorem inlX1 : ∀ w ∈ wsX10, w ∈ wsL_law := fun _ h => List.mem_append_left _ (List.mem_append_left _ (List.mem_append_left _ (List.mem_append_left _ (List.mem_append_left _ (List.mem_append_right _ h)))))
theorem inX1 : ∀ w ∈ wsX10, w ∈ lw_tbl := fun w h => wsL_law_in w (inlX1 w h)
theorem inlX2 : ∀ w ∈ wsX20, w ∈ wsL_law := fun _ h => List.mem_append_left _ (List.mem_append_left _ (List.mem_append_left _ (List.mem_append_left _ (List.mem_append_left _ (List.mem_append_left _ (List.mem_append_left _ (List.mem_append_left _ (List.mem_append_left _ (List.mem_append_right _ h)))))))))
theorem inX2 : ∀ w ∈ wsX20, w ∈ lw_tbl := fun w h => wsL_law_in w (inlX2 w h)
theorem inlX3 : ∀ w ∈ wsX30, w ∈ wsL_law := fun _ h => List.mem_append_left _ (List.mem_append_left _ (List.mem_append_left _ (List.mem_append_left _ (List.mem_append_left _ (List.mem_append_left _ (List.mem_append_left _ (List.mem_append_right _ h)))))))
theorem inX3 : ∀ w ∈ wsX30, w ∈ lw_tbl := fun w h => wsL_law_in w (inlX3 w h)
theorem inlX4 : ∀ w ∈ wsX40, w ∈ wsL_law := fun _ h => List.mem_append_left _ (List.mem_append_left _ (List.mem_append_left _ (List.mem_append_left _ (List.mem_append_left _ (List.mem_append_left _ (List.mem_append_right _ h))))))
theorem inX4 : ∀ w ∈ wsX40, w ∈ lw_tbl := fun w h => wsL_law_in w (inlX4 w h)
theorem inlX5 : ∀ w ∈ wsX50, w ∈ wsL_law := fun _ h => List.mem_append_left _ (List.mem_append_left _ (List.mem_append_left _ (List.mem_append_left _ (List.mem_append_left _ (List.mem_append_left _ (List.mem_append_left _ (List.mem_append_left _ (List.mem_append_left _ (List.mem_append_left _ (List.mem_append_left _ (List.mem_append_right _ h)))))))))))
theorem inX5 : ∀ w ∈ wsX50, w ∈ lw_tbl := fun w h => wsL_law_in w (inlX5 w h)
theorem inlX6 : ∀ w ∈ wsX60, w ∈ wsL_law := fun _ h => List.mem_append_left _ (List.mem_append_left _ (List.mem_append_left _ (List.mem_append_left _ (List.mem_append_left _ (List.mem_append_left _ (List.mem_append_left _ (List.mem_append_left _ (List.mem_append_left _ (List.mem_append_left _ (List.mem_append_right _ h))))))))))
theorem inX6 : ∀ w ∈ wsX60, w ∈ lw_tbl := fun w h => wsL_law_in w (inlX6 w h)
theorem inlJx4a65c : ∀ w ∈ wsJx4a65c0, w ∈ wsL_law := fun _ h => List.mem_append_left _ (List.mem_append_left _ (List.mem_append_left _ (List.mem_append_left _ (List.mem_append_left _ (List.mem_append_left _ (List.mem_append_left _ (List.mem_append_left _ (List.mem_append_right _ h))))))))
theorem inJx4a65c : ∀ w ∈ wsJx4a65c0, w ∈ lw_tbl := fun w h => wsL_law_in w (inlJx4a65c w h)
set_option maxRecDepth 20000 in
theorem ggL_law_X5_init : GoodIn wsL_law wsX5_init := goodIn_r _ [9, 10, 11, 12, 13, 14, 15, 16, 17, 18, 19, 20, 21, 22, 23, 24, 25, 26, 27, 28, 29, 30, 31, 32, 33, 34, 35, 36, 37, 38, 39, 40, 41, 42, 43, 44, 45, 46, 47, 48, 49, 50, 51, 52, 53, 741, 742, 743, 744, 745, 746, 718, 719, 720, 721, 722, 723, 747, 748, 749] (by decide +kernel) (by decide +kernel)
set_option maxRecDepth 20000 in
theorem gL_law_X5_init : GoodIn wsL_law (wsX5_init) := ggL_law_X5_init
set_option maxRecDepth 20000 in
theorem ggL_law_X6_init : GoodIn wsL_law wsX6_init := goodIn_r _ [56, 57, 11, 12, 32, 58, 59, 60, 61, 62, 63, 64, 724, 725, 726, 727, 728, 729, 730, 731, 732, 733, 734, 735, 736, 737, 738, 739, 740] (by decide +kernel) (by decide +kernel)
set_option maxRecDepth 20000 in
theorem gL_law_X6_init : GoodIn wsL_law (wsX6_init) := ggL_law_X6_init
set_option maxRecDepth 20000 in
theorem ggL_law_L_addStation : GoodIn wsL_law wsL_addStation := goodIn_ca (goodIn_ca (goodIn_r _ [68, 69, 70, 71, 72, 2, 73, 74, 75, 76, 77, 16, 78, 79, 80, 81, 82, 83, 19, 84, 85, 86, 15, 87, 88, 29, 89, 90, 91, 92, 93, 94, 95, 11, 12, 96, 97, 98, 99, 18, 100, 101, 102, 103, 104, 39, 40, 41, 42, 43, 44, 45, 46, 47, 48, 49, 50, 51, 52, 105, 106, 107, 108, 109, 110, 111, 112, 113, 114, 115, 116, 117, 118, 119, 120, 121, 122, 123, 124, 125, 126, 127, 128, 129, 130, 131, 132, 133, 134, 135, 136, 137, 138, 139, 140, 141, 142, 143, 144, 145, 146, 147, 148, 149, 150, 151, 152, 153, 154, 155, 156, 157, 158, 159, 160, 35, 718, 719, 720, 721, 722, 723, 741, 742, 743, 744, 745, 746, 747, 748, 749, 750, 751, 752, 753, 754, 755, 756] (by decide +kernel) (by decide +kernel)) (goodIn_sub (fun _ h => List.mem_append_left _ (List.mem_append_left _ (List.mem_append_right _ h))) (by decide +kernel))) (goodIn_sub (fun _ h => List.mem_append_left _ (List.mem_append_right _ h)) (by decide +kernel))
set_option maxRecDepth 20000 in
theorem gL_law_L_addStation : GoodIn wsL_law (va_wsS RL 69 yL_addStation wsL_addStation) := goodIn_app (goodIn_of _ (by decide +kernel)) ggL_law_L_addStation
set_option maxRecDepth 20000 in
theorem ggL_law_X6_addStation : GoodIn wsL_law wsX6_addStation := goodIn_r _ [164, 165, 166, 32, 58, 167, 154, 155, 156, 168, 169, 5, 170, 171, 172, 173, 174, 724, 725, 726, 727, 728, 729, 730, 731, 732, 733, 734, 735, 736, 737, 738, 739, 740] (by decide +kernel) (by decide +kernel)
set_option maxRecDepth 20000 in
theorem gL_law_X6_addStation : GoodIn wsL_law (wsV RL 74 RX6 yX6_addStation wsX6_addStation) := goodIn_app (goodIn_of _ (by decide +kernel)) ggL_law_X6_addStation
set_option maxRecDepth 20000 in
theorem ggL_law_X6_thrown : GoodIn wsL_law wsX6_thrown := goodIn_r _ [178, 165, 724, 725, 726, 727, 728, 729, 730, 731, 732, 733, 734, 735, 736, 737, 738, 739, 740] (by decide +kernel) (by decide +kernel)
set_option maxRecDepth 20000 in
theorem gL_law_X6_thrown : GoodIn wsL_law (wsV RL 75 RX6 yX6_thrown wsX6_thrown) := goodIn_app (goodIn_of _ (by decide +kernel)) ggL_law_X6_thrown
set_option maxRecDepth 20000 in
theorem ggL_law_L_addTube : GoodIn wsL_law wsL_addTube := goodIn_ca (goodIn_ca (goodIn_ca (goodIn_r _ [181, 182, 183, 184, 185, 2, 186, 74, 75, 76, 77, 16, 187, 188, 189, 190, 191, 192, 193, 194, 15, 195, 196, 29, 92, 82, 83, 19, 84, 85, 197, 198, 199, 200, 201, 202, 203, 204, 205, 206, 207, 208, 209, 210, 211, 212, 42, 78, 79, 80, 213, 214, 215, 81, 216, 217, 218, 219, 220, 221, 30, 222, 223, 224, 11, 12, 225, 226, 227, 228, 229, 230, 231, 232, 18, 233, 234, 235, 236, 237, 238, 239, 240, 241, 39, 40, 41, 43, 44, 45, 46, 47, 48, 49, 50, 51, 52, 105, 106, 107, 108, 109, 110, 111, 112, 113, 114, 115, 116, 117, 118, 119, 120, 121, 122, 123, 124, 125, 126, 127, 128, 129, 130, 131, 132, 133, 134, 135, 136, 137, 138, 139, 140, 141, 142, 143, 144, 145, 146, 147, 148, 149, 150, 151, 152, 153, 154, 155, 156, 157, 158, 159, 160, 35, 718, 719, 720, 721, 722, 723, 741, 742, 743, 744, 745, 746, 750, 751, 752, 753, 754, 755, 756, 747, 748, 749, 757, 758, 759, 760, 761, 762, 763, 764, 765, 766, 767] (by decide +kernel) (by decide +kernel)) (goodIn_sub (fun _ h => List.mem_append_left _ (List.mem_append_left _ (List.mem_append_right _ h))) (by decide +kernel))) (goodIn_sub (fun _ h => List.mem_append_left _ (List.mem_append_right _ h)) (by decide +kernel))) (goodIn_sub (fun _ h => List.mem_append_right _ h) (by decide +kernel))
set_option maxRecDepth 20000 in
theorem gL_law_L_addTube : GoodIn wsL_law (va_wsS RL 79 yL_addTube wsL_addTube) := goodIn_app (goodIn_of _ (by decide +kernel)) ggL_law_L_addTube
set_option maxRecDepth 20000 in
theorem ggL_law_X6_addTube : GoodIn wsL_law wsX6_addTube := goodIn_r _ [245, 165, 246, 32, 59, 167, 154, 155, 156, 58, 247, 248, 249, 5, 250, 166, 168, 169, 170, 171, 172, 173, 174, 251, 252, 253, 254, 724, 725, 726, 727, 728, 729, 730, 731, 732, 733, 734, 735, 736, 737, 738, 739, 740] (by decide +kernel) (by decide +kernel)
set_option maxRecDepth 20000 in
theorem gL_law_X6_addTube : GoodIn wsL_law (wsV RL 82 RX6 yX6_addTube wsX6_addTube) := goodIn_app (goodIn_of _ (by decide +kernel)) ggL_law_X6_addTube
set_option maxRecDepth 20000 in
theorem ggL_law_L_turn : GoodIn wsL_law wsL_turn := goodIn_ca (goodIn_ca (goodIn_r _ [257, 182, 258, 259, 260, 2, 261, 74, 75, 187, 188, 189, 190, 191, 192, 16, 193, 194, 15, 195, 196, 29, 92, 82, 83, 19, 84, 85, 197, 198, 199, 200, 201, 202, 203, 204, 205, 206, 207, 208, 209, 210, 211, 212, 42, 262, 91, 263, 264, 100, 265, 750, 751, 752, 753, 754, 755, 756, 718, 719, 720, 721, 722, 723, 741, 742, 743, 744, 745, 746, 747, 748, 749] (by decide +kernel) (by decide +kernel)) (goodIn_sub (fun _ h => List.mem_append_left _ (List.mem_append_left _ (List.mem_append_right _ h))) (by decide +kernel))) (goodIn_sub (fun _ h => List.mem_append_right _ h) (by decide +kernel))
set_option maxRecDepth 20000 in
theorem gL_law_L_turn : GoodIn wsL_law (va_wsS RL 83 yL_turn wsL_turn) := goodIn_app (goodIn_of _ (by decide +kernel)) ggL_law_L_turn
set_option maxRecDepth 20000 in
theorem ggL_law_X6_turn : GoodIn wsL_law wsX6_turn := goodIn_r _ [269, 165, 58, 247, 248, 249, 5, 250, 166, 168, 169, 170, 171, 172, 173, 174, 251, 252, 253, 254, 724, 725, 726, 727, 728, 729, 730, 731, 732, 733, 734, 735, 736, 737, 738, 739, 740] (by decide +kernel) (by decide +kernel)
set_option maxRecDepth 20000 in
theorem gL_law_X6_turn : GoodIn wsL_law (wsV RL 85 RX6 yX6_turn wsX6_turn) := goodIn_app (goodIn_of _ (by decide +kernel)) ggL_law_X6_turn
set_option maxRecDepth 20000 in
theorem ggL_law_L_setTube : GoodIn wsL_law wsL_setTube := goodIn_ca (goodIn_ca (goodIn_r _ [272, 182, 273, 274, 275, 2, 276, 16, 277, 278, 279, 280, 191, 192, 281, 282, 15, 283, 284, 30, 92, 82, 83, 19, 84, 85, 197, 198, 199, 200, 201, 202, 203, 204, 205, 206, 207, 208, 209, 210, 211, 212, 42, 213, 214, 215, 74, 75, 78, 79, 80, 285, 286, 287, 288, 221, 289, 290, 230, 228, 231, 237, 238, 239, 240, 157, 158, 159, 160, 35, 757, 758, 759, 760, 761, 762, 763, 764, 765, 766, 767, 718, 719, 720, 721, 722, 723, 741, 742, 743, 744, 745, 746, 747, 748, 749] (by decide +kernel) (by decide +kernel)) (goodIn_sub (fun _ h => List.mem_append_right _ h) (by decide +kernel))) (goodIn_sub (fun _ h => List.mem_append_left _ (List.mem_append_left _ (List.mem_append_right _ h))) (by decide +kernel))
set_option maxRecDepth 20000 in
theorem gL_law_L_setTube : GoodIn wsL_law (va_wsS RL 86 yL_setTube wsL_setTube) := goodIn_app (goodIn_of _ (by decide +kernel)) ggL_law_L_setTube
set_option maxRecDepth 20000 in
theorem ggL_law_X6_setTube : GoodIn wsL_law wsX6_setTube := goodIn_r _ [294, 165, 59, 295, 296, 297, 5, 298, 246, 168, 169, 170, 171, 172, 173, 174, 299, 300, 301, 302, 724, 725, 726, 727, 728, 729, 730, 731, 732, 733, 734, 735, 736, 737, 738, 739, 740] (by decide +kernel) (by decide +kernel)
set_option maxRecDepth 20000 in
theorem gL_law_X6_setTube : GoodIn wsL_law (wsV RL 89 RX6 yX6_setTube wsX6_setTube) := goodIn_app (goodIn_of _ (by decide +kernel)) ggL_law_X6_setTube
set_option maxRecDepth 20000 in
theorem ggL_law_L_addEntry : GoodIn wsL_law wsL_addEntry := goodIn_ca (goodIn_ca (goodIn_ca (goodIn_r _ [305, 69, 306, 307, 308, 2, 309, 74, 75, 76, 77, 22, 310, 20, 311, 312, 313, 78, 79, 80, 314, 315, 316, 317, 191, 192, 277, 278, 279, 280, 16, 281, 282, 15, 283, 284, 30, 92, 82, 83, 19, 84, 85, 197, 198, 199, 200, 201, 202, 203, 204, 205, 206, 207, 208, 209, 210, 211, 212, 42, 187, 188, 189, 190, 193, 194, 195, 196, 29, 262, 91, 263, 264, 100, 265, 81, 318, 319, 320, 11, 12, 321, 322, 323, 324, 325, 326, 106, 107, 108, 109, 110, 111, 112, 113, 114, 115, 116, 117, 118, 119, 120, 121, 122, 41, 123, 124, 125, 126, 127, 128, 129, 130, 131, 132, 133, 134, 135, 136, 137, 138, 139, 140, 141, 142, 143, 144, 145, 146, 147, 148, 149, 150, 151, 152, 153, 154, 155, 156, 718, 719, 720, 721, 722, 723, 768, 769, 770, 771, 772, 741, 742, 743, 744, 745, 746, 747, 748, 749, 750, 751, 752, 753, 754, 755, 756] (by decide +kernel) (by decide +kernel)) (goodIn_sub (fun _ h => List.mem_append_left _ (List.mem_append_left _ (List.mem_append_right _ h))) (by decide +kernel))) (goodIn_sub (fun _ h => List.mem_append_left _ (List.mem_append_right _ h)) (by decide +kernel))) (goodIn_sub (fun _ h => List.mem_append_right _ h) (by decide +kernel))
set_option maxRecDepth 20000 in
theorem gL_law_L_addEntry : GoodIn wsL_law (va_wsS RL 90 yL_addEntry wsL_addEntry) := goodIn_app (goodIn_of _ (by decide +kernel)) ggL_law_L_addEntry
set_option maxRecDepth 20000 in
theorem ggL_law_X6_addEntry : GoodIn wsL_law wsX6_addEntry := goodIn_r _ [330, 165, 331, 332, 333, 32, 60, 167, 154, 155, 156, 168, 169, 5, 170, 171, 172, 173, 174, 247, 248, 249, 250, 166, 251, 252, 253, 254, 58, 295, 296, 297, 298, 246, 724, 725, 726, 727, 728, 729, 730, 731, 732, 733, 734, 735, 736, 737, 738, 739, 740] (by decide +kernel) (by decide +kernel)
set_option maxRecDepth 20000 in
theorem gL_law_X6_addEntry : GoodIn wsL_law (wsV RL 92 RX6 yX6_addEntry wsX6_addEntry) := goodIn_app (goodIn_of _ (by decide +kernel)) ggL_law_X6_addEntry
set_option maxRecDepth 20000 in
theorem ggL_law_L_send : GoodIn wsL_law wsL_send := goodIn_ca (goodIn_ca (goodIn_ca (goodIn_r _ [336, 182, 337, 338, 339, 2, 340, 74, 75, 76, 77, 21, 187, 188, 189, 190, 191, 192, 16, 193, 194, 15, 195, 196, 29, 92, 82, 83, 19, 84, 85, 197, 198, 199, 200, 201, 202, 203, 204, 205, 206, 207, 208, 209, 210, 211, 212, 42, 78, 79, 80, 341, 342, 343, 344, 345, 91, 346, 347, 101, 97, 265, 348, 349, 350, 351, 23, 81, 352, 353, 354, 355, 356, 357, 358, 22, 359, 360, 361, 11, 12, 362, 363, 364, 365, 366, 367, 368, 369, 370, 326, 106, 107, 108, 109, 110, 111, 112, 113, 114, 115, 116, 117, 118, 119, 120, 121, 122, 41, 123, 124, 125, 126, 127, 128, 129, 130, 131, 132, 133, 134, 135, 136, 137, 138, 139, 140, 141, 142, 143, 144, 145, 146, 147, 148, 149, 150, 151, 152, 153, 154, 155, 156, 371, 372, 373, 374, 375, 376, 377, 378, 379, 380, 381, 382, 383, 384, 385, 386, 387, 718, 719, 720, 721, 722, 723, 741, 742, 743, 744, 745, 746, 747, 748, 749, 750, 751, 752, 753, 754, 755, 756, 773, 774, 775, 776, 777, 778, 779, 780, 781] (by decide +kernel) (by decide +kernel)) (goodIn_sub (fun _ h => List.mem_append_left _ (List.mem_append_left _ (List.mem_append_right _ h))) (by decide +kernel))) (goodIn_sub (fun _ h => List.mem_append_left _ (List.mem_append_right _ h)) (by decide +kernel))) (goodIn_sub (fun _ h => List.mem_append_right _ h) (by decide +kernel))
set_option maxRecDepth 20000 in
theorem gL_law_L_send : GoodIn wsL_law (va_wsS RL 93 yL_send wsL_send) := goodIn_app (goodIn_of _ (by decide +kernel)) ggL_law_L_send
set_option maxRecDepth 20000 in
theorem ggL_law_X6_send : GoodIn wsL_law wsX6_send := goodIn_r _ [391, 165, 392, 247, 248, 249, 5, 250, 166, 168, 169, 170, 171, 172, 173, 174, 393, 394, 395, 396, 397, 398, 399, 400, 401, 62, 402, 403, 404, 405, 61, 251, 252, 253, 254, 58, 406, 407, 408, 409, 331, 410, 411, 412, 413, 414, 415, 416, 417, 418, 724, 725, 726, 727, 728, 729, 730, 731, 732, 733, 734, 735, 736, 737, 738, 739, 740] (by decide +kernel) (by decide +kernel)
set_option maxRecDepth 20000 in
theorem gL_law_X6_send : GoodIn wsL_law (wsV RL 96 RX6 yX6_send wsX6_send) := goodIn_app (goodIn_of _ (by decide +kernel)) ggL_law_X6_send
theorem kL0 {ws : List Cond} (h : GoodIn wsL_law0 ws) : GoodIn wsL_law ws := fun w hw => ⟨List.mem_append_left _ (List.mem_append_left _ (List.mem_append_left _ (h w hw).1)), (h w hw).2⟩
set_option maxRecDepth 20000 in
theorem kB1 : GoodIn wsL_law0 wsL_run_r1 := goodIn_r _ [69, 422, 423, 424, 2, 425, 74, 75, 23, 22, 78, 79, 80, 426, 427, 428, 429, 20, 311, 81, 82, 83, 19, 84] (by decide +kernel) (by decide +kernel)
set_option maxRecDepth 20000 in
theorem kB2 : GoodIn wsL_law0 wsL_run_r2 := goodIn_r _ [85, 197, 198, 199, 200, 201, 202, 203, 204, 205, 206, 207, 208, 209, 210, 211, 212, 42, 431, 313, 432, 433, 322, 321] (by decide +kernel) (by decide +kernel)
set_option maxRecDepth 20000 in
theorem kB3 : GoodIn wsL_law0 wsL_run_r3 := goodIn_r _ [434, 435, 436, 437, 16, 281, 193, 282, 15, 283, 284, 30, 92, 285, 286, 287, 288, 221, 289, 290, 230, 228, 231, 237] (by decide +kernel) (by decide +kernel)
set_option maxRecDepth 20000 in
theorem kB4 : GoodIn wsL_law0 wsL_run_r4 := goodIn_r _ [238, 239, 240, 157, 158, 159, 160, 35, 194, 195, 196, 29, 438, 439, 440, 441, 341, 342, 343, 344, 21, 345, 91, 346] (by decide +kernel) (by decide +kernel)
set_option maxRecDepth 20000 in
theorem kB5 : GoodIn wsL_law0 wsL_run_r5 := goodIn_r _ [347, 101, 97, 265, 348, 349, 350, 351, 352, 353, 354, 355, 356, 357, 358, 359, 360, 361, 11, 12, 362, 363, 364, 365] (by decide +kernel) (by decide +kernel)
set_option maxRecDepth 20000 in
theorem kB6 : GoodIn wsL_law0 wsL_run_r6 := goodIn_r _ [366, 367, 368, 369, 370, 326, 106, 107, 108, 109, 110, 111, 112, 113, 114, 115, 116, 117, 118, 119, 120, 121, 122, 41] (by decide +kernel) (by decide +kernel)
set_option maxRecDepth 20000 in
theorem kB7 : GoodIn wsL_law0 wsL_run_r7 := goodIn_r _ [123, 124, 125, 126, 127, 128, 129, 130, 131, 132, 133, 134, 135, 136, 137, 138, 139, 140, 141, 142, 143, 144, 145, 146] (by decide +kernel) (by decide +kernel)
set_option maxRecDepth 20000 in
theorem kB8 : GoodIn wsL_law0 wsL_run_r8 := goodIn_r _ [147, 148, 149, 150, 151, 152, 153, 154, 155, 156, 371, 372, 373, 374, 375, 376, 377, 378, 379, 380, 381, 382, 383, 384] (by decide +kernel) (by decide +kernel)
set_option maxRecDepth 20000 in
theorem kB9 : GoodIn wsL_law0 wsL_run_r9 := goodIn_r _ [385, 386, 387, 442, 443, 444, 445, 446, 447, 448, 449, 356, 451, 452, 453, 233, 454, 455, 456, 457, 458, 459, 460, 461] (by decide +kernel) (by decide +kernel)
set_option maxRecDepth 20000 in
theorem kB10 : GoodIn wsL_law0 wsL_run_r10 := goodIn_r _ [462, 463, 24, 464, 465, 466, 467, 468, 469, 470, 471, 472, 473, 474, 475, 476, 477, 478, 479, 480, 481, 482, 483, 484] (by decide +kernel) (by decide +kernel)
set_option maxRecDepth 20000 in
theorem kB11 : GoodIn wsL_law0 wsL_run_r11 := goodIn_r _ [485, 486, 487, 219, 489, 490, 491, 492, 33, 493, 494, 495, 496, 497, 498, 499, 500, 501, 502, 503, 234, 229, 236, 504] (by decide +kernel) (by decide +kernel)
set_option maxRecDepth 20000 in
theorem kB12 : GoodIn wsL_law0 wsL_run_r12 := goodIn_r _ [505, 506, 507, 508] (by decide +kernel) (by decide +kernel)
set_option maxRecDepth 20000 in
theorem kD_wsX50 : GoodIn wsL_law0 wsX50 := goodIn_r _ [718, 719, 720, 721, 722, 723] (by decide +kernel) (by decide +kernel)
set_option maxRecDepth 20000 in
theorem kD_wsJx4a65c0 : GoodIn wsL_law0 wsJx4a65c0 := goodIn_r _ [747, 748, 749] (by decide +kernel) (by decide +kernel)
set_option maxRecDepth 20000 in
theorem kD_wsX10 : GoodIn wsL_law0 wsX10 := goodIn_r _ [768, 769, 770, 771, 772] (by decide +kernel) (by decide +kernel)
set_option maxRecDepth 20000 in
theorem kD_wsX20 : GoodIn wsL_law0 wsX20 := goodIn_r _ [741, 742, 743, 744, 745, 746] (by decide +kernel) (by decide +kernel)
set_option maxRecDepth 20000 in
theorem kD_wsX40 : GoodIn wsL_law0 wsX40 := goodIn_r _ [757, 758, 759, 760, 761, 762, 763, 764, 765, 766, 767] (by decide +kernel) (by decide +kernel)
set_option maxRecDepth 20000 in
theorem kD_wsX30 : GoodIn wsL_law0 wsX30 := goodIn_r _ [750, 751, 752, 753, 754, 755, 756] (by decide +kernel) (by decide +kernel)
set_option maxRecDepth 20000 in
theorem kD_wsX00 : GoodIn wsL_law0 wsX00 := goodIn_r _ [773, 774, 775, 776, 777, 778, 779, 780, 781] (by decide +kernel) (by decide +kernel)
set_option maxRecDepth 20000 in
theorem kD_wsX60 : GoodIn wsL_law0 wsX60 := goodIn_r _ [724, 725, 726, 727, 728, 729, 730, 731, 732, 733, 734, 735, 736, 737, 738, 739, 740] (by decide +kernel) (by decide +kernel)
set_option maxRecDepth 20000 in
theorem kF0 : GoodIn wsL_law0 [Cond.codeWith yL_run cL_run 4 (some .int) [(0, 9, 12, 13)]] := goodIn_r _ [421] (by decide +kernel) (by decide +kernel)
theorem ggL_law_L_run : GoodIn wsL_law wsL_run := goodIn_ca (kL0 (goodIn_app kF0 (goodIn_app (goodIn_app (goodIn_app (goodIn_app (goodIn_app (goodIn_app (goodIn_app (goodIn_app kB1 (goodIn_app kB2 (goodIn_app kB3 (goodIn_app kB4 (goodIn_app kB5 (goodIn_app kB6 (goodIn_app kB7 (goodIn_app kB8 (goodIn_app kB9 (goodIn_app kB10 (goodIn_app kB11 kB12))))))))))) kD_wsX50) kD_wsJx4a65c0) kD_wsX10) kD_wsX20) kD_wsX40) kD_wsX30) kD_wsX00))) (goodIn_sub (fun _ h => List.mem_append_left _ (List.mem_append_left _ (List.mem_append_right _ h))) (by decide +kernel))
set_option maxRecDepth 20000 in
theorem gL_law_L_run : GoodIn wsL_law (va_wsS RL 97 yL_run wsL_run) := goodIn_app (goodIn_of _ (by decide +kernel)) ggL_law_L_run
set_option maxRecDepth 20000 in
theorem kC1 : GoodIn wsL_law0 wsX6_run_r1 := goodIn_r _ [165, 513, 331, 246, 166, 168, 169, 5, 170, 171, 172, 173, 174, 514, 515, 516, 517, 333, 60, 58, 59, 393, 394, 395] (by decide +kernel) (by decide +kernel)
set_option maxRecDepth 20000 in
theorem kC2 : GoodIn wsL_law0 wsX6_run_r2 := goodIn_r _ [396, 397, 392, 398, 399, 400, 401, 62, 402, 403, 404, 405, 61, 251, 252, 253, 254, 406, 407, 408, 409, 410, 411, 412] (by decide +kernel) (by decide +kernel)
set_option maxRecDepth 20000 in
theorem kC3 : GoodIn wsL_law0 wsX6_run_r3 := goodIn_r _ [413, 414, 415, 416, 417, 418, 518, 519, 520, 521, 299, 300, 301, 302, 522, 523, 524, 525, 526, 527, 528, 529, 530, 531] (by decide +kernel) (by decide +kernel)
set_option maxRecDepth 20000 in
theorem kC4 : GoodIn wsL_law0 wsX6_run_r4 := goodIn_r _ [532, 533, 534, 535, 536, 537, 538, 64, 539, 540, 541, 542, 543, 544, 545, 546, 547, 548, 549, 550, 551, 552, 553, 554] (by decide +kernel) (by decide +kernel)
set_option maxRecDepth 20000 in
theorem kC5 : GoodIn wsL_law0 wsX6_run_r5 := goodIn_r _ [63, 555, 556, 557, 558, 559, 560, 561, 562] (by decide +kernel) (by decide +kernel)
set_option maxRecDepth 20000 in
theorem kF1 : GoodIn wsL_law0 [Cond.code yX6_run cX6_run 5 (some .int)] := goodIn_r _ [512] (by decide +kernel) (by decide +kernel)
theorem ggL_law_X6_run : GoodIn wsL_law wsX6_run := kL0 (goodIn_app kF1 (goodIn_app (goodIn_app kC1 (goodIn_app kC2 (goodIn_app kC3 (goodIn_app kC4 kC5)))) kD_wsX60))
set_option maxRecDepth 20000 in
theorem gL_law_X6_run : GoodIn wsL_law (wsV RL 100 RX6 yX6_run wsX6_run) := goodIn_app (goodIn_of _ (by decide +kernel)) ggL_law_X6_run
set_option maxRecDepth 20000 in
theorem ggL_law_L_carrier : GoodIn wsL_law wsL_carrier := goodIn_ca (goodIn_r _ [565, 182, 566, 567, 568, 2, 569, 191, 192, 21, 450, 81, 82, 83, 19, 84, 85, 78, 79, 80, 197, 198, 199, 200, 201, 202, 203, 204, 205, 206, 207, 208, 209, 210, 211, 212, 42, 718, 719, 720, 721, 722, 723, 773, 774, 775, 776, 777, 778, 779, 780, 781, 750, 751, 752, 753, 754, 755, 756, 747, 748, 749] (by decide +kernel) (by decide +kernel)) (goodIn_sub (fun _ h => List.mem_append_right _ h) (by decide +kernel))
set_option maxRecDepth 20000 in
theorem gL_law_L_carrier : GoodIn wsL_law (va_wsS RL 101 yL_carrier wsL_carrier) := goodIn_app (goodIn_of _ (by decide +kernel)) ggL_law_L_carrier
set_option maxRecDepth 20000 in
theorem ggL_law_X6_carrier : GoodIn wsL_law wsX6_carrier := goodIn_r _ [573, 165, 392, 168, 169, 5, 170, 402, 403, 404, 405, 61, 171, 172, 173, 174, 724, 725, 726, 727, 728, 729, 730, 731, 732, 733, 734, 735, 736, 737, 738, 739, 740] (by decide +kernel) (by decide +kernel)
set_option maxRecDepth 20000 in
theorem gL_law_X6_carrier : GoodIn wsL_law (wsV RL 103 RX6 yX6_carrier wsX6_carrier) := goodIn_app (goodIn_of _ (by decide +kernel)) ggL_law_X6_carrier
set_option maxRecDepth 20000 in
theorem ggL_law_L_count : GoodIn wsL_law wsL_count := goodIn_ca (goodIn_r _ [576, 182, 577, 578, 579, 2, 580, 191, 192, 22, 16, 20, 21, 23, 24, 81, 82, 83, 19, 84, 85, 348, 349, 350, 351, 581, 582, 583, 584, 281, 197, 198, 199, 200, 201, 202, 203, 204, 205, 206, 207, 208, 209, 210, 211, 212, 42, 451, 221, 452, 453, 233, 454, 455, 456, 457, 458, 459, 718, 719, 720, 721, 722, 723, 741, 742, 743, 744, 745, 746, 747, 748, 749, 757, 758, 759, 760, 761, 762, 763, 764, 765, 766, 767, 773, 774, 775, 776, 777, 778, 779, 780, 781] (by decide +kernel) (by decide +kernel)) (goodIn_sub (fun _ h => List.mem_append_right _ h) (by decide +kernel))
set_option maxRecDepth 20000 in
theorem gL_law_L_count : GoodIn wsL_law (va_wsS RL 104 yL_count wsL_count) := goodIn_app (goodIn_of _ (by decide +kernel)) ggL_law_L_count
set_option maxRecDepth 20000 in
theorem ggL_law_X6_count : GoodIn wsL_law wsX6_count := goodIn_r _ [588, 165, 168, 169, 5, 170, 589, 590, 591, 592, 331, 166, 246, 333, 392, 397, 513, 534, 522, 523, 524, 525, 62, 402, 403, 404, 405, 61, 526, 527, 528, 529, 171, 172, 173, 174, 724, 725, 726, 727, 728, 729, 730, 731, 732, 733, 734, 735, 736, 737, 738, 739, 740] (by decide +kernel) (by decide +kernel)
set_option maxRecDepth 20000 in
theorem gL_law_X6_count : GoodIn wsL_law (wsV RL 106 RX6 yX6_count wsX6_count) := goodIn_app (goodIn_of _ (by decide +kernel)) ggL_law_X6_count
set_option maxRecDepth 20000 in
theorem ggL_law_L_station : GoodIn wsL_law wsL_station := goodIn_ca (goodIn_r _ [595, 182, 596, 597, 598, 2, 599, 191, 192, 187, 188, 189, 190, 16, 193, 194, 15, 195, 196, 29, 92, 82, 83, 19, 84, 85, 197, 198, 199, 200, 201, 202, 203, 204, 205, 206, 207, 208, 209, 210, 211, 212, 42, 81, 750, 751, 752, 753, 754, 755, 756, 718, 719, 720, 721, 722, 723, 741, 742, 743, 744, 745, 746, 747, 748, 749] (by decide +kernel) (by decide +kernel)) (goodIn_sub (fun _ h => List.mem_append_right _ h) (by decide +kernel))
set_option maxRecDepth 20000 in
theorem gL_law_L_station : GoodIn wsL_law (va_wsS RL 107 yL_station wsL_station) := goodIn_app (goodIn_of _ (by decide +kernel)) ggL_law_L_station
set_option maxRecDepth 20000 in
theorem ggL_law_X6_station : GoodIn wsL_law wsX6_station := goodIn_r _ [603, 165, 247, 248, 249, 5, 250, 166, 168, 169, 170, 604, 605, 606, 607, 251, 252, 253, 254, 58, 398, 399, 400, 401, 397, 62, 402, 403, 404, 405, 61, 171, 172, 173, 174, 724, 725, 726, 727, 728, 729, 730, 731, 732, 733, 734, 735, 736, 737, 738, 739, 740] (by decide +kernel) (by decide +kernel)
set_option maxRecDepth 20000 in
theorem gL_law_X6_station : GoodIn wsL_law (wsV RL 109 RX6 yX6_station wsX6_station) := goodIn_app (goodIn_of _ (by decide +kernel)) ggL_law_X6_station
set_option maxRecDepth 20000 in
theorem ggL_law_L_tube : GoodIn wsL_law wsL_tube := goodIn_ca (goodIn_r _ [610, 182, 611, 612, 613, 2, 614, 191, 192, 22, 277, 278, 279, 280, 16, 281, 282, 15, 283, 284, 30, 92, 82, 83, 19, 84, 85, 197, 198, 199, 200, 201, 202, 203, 204, 205, 206, 207, 208, 209, 210, 211, 212, 42, 81, 451, 221, 452, 453, 233, 454, 455, 456, 457, 458, 459, 757, 758, 759, 760, 761, 762, 763, 764, 765, 766, 767, 750, 751, 752, 753, 754, 755, 756, 718, 719, 720, 721, 722, 723, 741, 742, 743, 744, 745, 746, 747, 748, 749, 773, 774, 775, 776, 777, 778, 779, 780, 781] (by decide +kernel) (by decide +kernel)) (goodIn_sub (fun _ h => List.mem_append_right _ h) (by decide +kernel))
set_option maxRecDepth 20000 in
theorem gL_law_L_tube : GoodIn wsL_law (va_wsS RL 110 yL_tube wsL_tube) := goodIn_app (goodIn_of _ (by decide +kernel)) ggL_law_L_tube
set_option maxRecDepth 20000 in
theorem ggL_law_X6_tube : GoodIn wsL_law wsX6_tube := goodIn_r _ [618, 165, 295, 296, 297, 5, 298, 246, 168, 169, 170, 619, 620, 621, 622, 299, 300, 301, 302, 59, 398, 399, 400, 401, 397, 62, 402, 403, 404, 405, 61, 522, 523, 524, 525, 526, 527, 528, 529, 331, 171, 172, 173, 174, 724, 725, 726, 727, 728, 729, 730, 731, 732, 733, 734, 735, 736, 737, 738, 739, 740] (by decide +kernel) (by decide +kernel)
set_option maxRecDepth 20000 in
theorem gL_law_X6_tube : GoodIn wsL_law (wsV RL 112 RX6 yX6_tube wsX6_tube) := goodIn_app (goodIn_of _ (by decide +kernel)) ggL_law_X6_tube
set_option maxRecDepth 20000 in
theorem ggL_law_L_there : GoodIn wsL_law wsL_there := goodIn_ca (goodIn_r _ [625, 182, 626, 627, 628, 2, 629, 191, 192, 450, 187, 188, 189, 190, 16, 193, 194, 15, 195, 196, 29, 92, 82, 83, 19, 84, 85, 197, 198, 199, 200, 201, 202, 203, 204, 205, 206, 207, 208, 209, 210, 211, 212, 42, 81, 78, 79, 80, 750, 751, 752, 753, 754, 755, 756, 773, 774, 775, 776, 777, 778, 779, 780, 781, 718, 719, 720, 721, 722, 723, 741, 742, 743, 744, 745, 746, 747, 748, 749] (by decide +kernel) (by decide +kernel)) (goodIn_sub (fun _ h => List.mem_append_right _ h) (by decide +kernel))
set_option maxRecDepth 20000 in
theorem gL_law_L_there : GoodIn wsL_law (va_wsS RL 113 yL_there wsL_there) := goodIn_app (goodIn_of _ (by decide +kernel)) ggL_law_L_there
set_option maxRecDepth 20000 in
theorem ggL_law_X6_there : GoodIn wsL_law wsX6_there := goodIn_r _ [633, 165, 64, 247, 248, 249, 5, 250, 166, 168, 169, 170, 539, 540, 541, 542, 397, 62, 402, 403, 404, 405, 61, 543, 544, 545, 546, 171, 172, 173, 174, 724, 725, 726, 727, 728, 729, 730, 731, 732, 733, 734, 735, 736, 737, 738, 739, 740] (by decide +kernel) (by decide +kernel)
set_option maxRecDepth 20000 in
theorem gL_law_X6_there : GoodIn wsL_law (wsV RL 115 RX6 yX6_there wsX6_there) := goodIn_app (goodIn_of _ (by decide +kernel)) ggL_law_X6_there
set_option maxRecDepth 20000 in
theorem ggL_law_L_time : GoodIn wsL_law wsL_time := goodIn_ca (goodIn_r _ [636, 182, 637, 638, 639, 2, 640, 16, 641, 187, 188, 189, 190, 191, 192, 193, 194, 15, 195, 196, 29, 92, 82, 83, 19, 84, 85, 197, 198, 199, 200, 201, 202, 203, 204, 205, 206, 207, 208, 209, 210, 211, 212, 42, 642, 643, 644, 489, 490, 491, 492, 33, 35, 487, 30, 488, 493, 494, 139, 495, 496, 497, 498, 499, 500, 718, 719, 720, 721, 722, 723, 741, 742, 743, 744, 745, 746, 747, 748, 749, 750, 751, 752, 753, 754, 755, 756, 757, 758, 759, 760, 761, 762, 763, 764, 765, 766, 767] (by decide +kernel) (by decide +kernel)) (goodIn_sub (fun _ h => List.mem_append_right _ h) (by decide +kernel))
set_option maxRecDepth 20000 in
theorem gL_law_L_time : GoodIn wsL_law (va_wsS RL 116 yL_time wsL_time) := goodIn_app (goodIn_of _ (by decide +kernel)) ggL_law_L_time
set_option maxRecDepth 20000 in
theorem ggL_law_X6_time : GoodIn wsL_law wsX6_time := goodIn_r _ [648, 165, 63, 247, 248, 249, 5, 250, 166, 168, 169, 170, 171, 172, 173, 174, 551, 552, 553, 554, 246, 299, 300, 301, 302, 59, 555, 556, 557, 558, 559, 560, 561, 562, 251, 252, 253, 254, 58, 724, 725, 726, 727, 728, 729, 730, 731, 732, 733, 734, 735, 736, 737, 738, 739, 740] (by decide +kernel) (by decide +kernel)
set_option maxRecDepth 20000 in
theorem gL_law_X6_time : GoodIn wsL_law (wsV RL 118 RX6 yX6_time wsX6_time) := goodIn_app (goodIn_of _ (by decide +kernel)) ggL_law_X6_time
set_option maxRecDepth 20000 in
theorem ggL_law_L_next : GoodIn wsL_law wsL_next := goodIn_ca (goodIn_r _ [651, 182, 652, 653, 654, 2, 655, 16, 187, 188, 189, 190, 191, 192, 193, 194, 15, 195, 196, 29, 92, 82, 83, 19, 84, 85, 197, 198, 199, 200, 201, 202, 203, 204, 205, 206, 207, 208, 209, 210, 211, 212, 42, 484, 485, 486, 487, 488, 489, 490, 491, 492, 33, 35, 30, 493, 494, 139, 495, 496, 497, 498, 499, 500, 718, 719, 720, 721, 722, 723, 741, 742, 743, 744, 745, 746, 747, 748, 749, 750, 751, 752, 753, 754, 755, 756, 757, 758, 759, 760, 761, 762, 763, 764, 765, 766, 767] (by decide +kernel) (by decide +kernel)) (goodIn_sub (fun _ h => List.mem_append_right _ h) (by decide +kernel))
set_option maxRecDepth 20000 in
theorem gL_law_L_next : GoodIn wsL_law (va_wsS RL 119 yL_next wsL_next) := goodIn_app (goodIn_of _ (by decide +kernel)) ggL_law_L_next
set_option maxRecDepth 20000 in
theorem ggL_law_X6_next : GoodIn wsL_law wsX6_next := goodIn_r _ [659, 165, 247, 248, 249, 5, 250, 166, 168, 169, 170, 171, 172, 173, 174, 547, 548, 549, 550, 251, 252, 253, 254, 58, 551, 552, 553, 554, 63, 246, 299, 300, 301, 302, 59, 555, 556, 557, 558, 559, 560, 561, 562, 724, 725, 726, 727, 728, 729, 730, 731, 732, 733, 734, 735, 736, 737, 738, 739, 740] (by decide +kernel) (by decide +kernel)
set_option maxRecDepth 20000 in
theorem gL_law_X6_next : GoodIn wsL_law (wsV RL 121 RX6 yX6_next wsX6_next) := goodIn_app (goodIn_of _ (by decide +kernel)) ggL_law_X6_next
set_option maxRecDepth 20000 in
theorem ggL_law_L_parts : GoodIn wsL_law wsL_parts := goodIn_ca (goodIn_r _ [662, 182, 663, 664, 665, 2, 666, 16, 277, 278, 279, 280, 191, 192, 281, 282, 15, 283, 284, 30, 92, 82, 83, 19, 84, 85, 197, 198, 199, 200, 201, 202, 203, 204, 205, 206, 207, 208, 209, 210, 211, 212, 42, 667, 668, 669, 36, 37, 29, 670, 671, 672, 673, 488, 496, 674, 675, 676, 677, 678, 679, 680, 718, 719, 720, 721, 722, 723, 741, 742, 743, 744, 745, 746, 747, 748, 749, 757, 758, 759, 760, 761, 762, 763, 764, 765, 766, 767, 750, 751, 752, 753, 754, 755, 756] (by decide +kernel) (by decide +kernel)) (goodIn_sub (fun _ h => List.mem_append_right _ h) (by decide +kernel))
set_option maxRecDepth 20000 in
theorem gL_law_L_parts : GoodIn wsL_law (va_wsS RL 122 yL_parts wsL_parts) := goodIn_app (goodIn_of _ (by decide +kernel)) ggL_law_L_parts
set_option maxRecDepth 20000 in
theorem ggL_law_X6_parts : GoodIn wsL_law wsX6_parts := goodIn_r _ [684, 165, 59, 295, 296, 297, 5, 298, 246, 168, 169, 170, 171, 172, 173, 174, 685, 686, 687, 688, 166, 63, 551, 552, 553, 554, 299, 300, 301, 302, 555, 556, 557, 558, 559, 560, 561, 562, 251, 252, 253, 254, 58, 724, 725, 726, 727, 728, 729, 730, 731, 732, 733, 734, 735, 736, 737, 738, 739, 740] (by decide +kernel) (by decide +kernel)
set_option maxRecDepth 20000 in
theorem gL_law_X6_parts : GoodIn wsL_law (wsV RL 124 RX6 yX6_parts wsX6_parts) := goodIn_app (goodIn_of _ (by decide +kernel)) ggL_law_X6_parts
set_option maxRecDepth 20000 in
theorem ggL_law_X5_mean : GoodIn wsL_law wsX5_mean := goodIn_r _ [692, 23, 24, 718, 719, 720, 721, 722, 723] (by decide +kernel) (by decide +kernel)
set_option maxRecDepth 20000 in
theorem gL_law_X5_mean : GoodIn wsL_law (wsV RL 125 RX5 yX5_mean wsX5_mean) := goodIn_app (goodIn_of _ (by decide +kernel)) ggL_law_X5_mean
set_option maxRecDepth 20000 in
theorem ggL_law_X6_mean : GoodIn wsL_law wsX6_mean := goodIn_r _ [696, 165, 513, 534, 724, 725, 726, 727, 728, 729, 730, 731, 732, 733, 734, 735, 736, 737, 738, 739, 740] (by decide +kernel) (by decide +kernel)
set_option maxRecDepth 20000 in
theorem gL_law_X6_mean : GoodIn wsL_law (wsV RL 129 RX6 yX6_mean wsX6_mean) := goodIn_app (goodIn_of _ (by decide +kernel)) ggL_law_X6_mean
set_option maxRecDepth 20000 in
theorem ggL_law_X5_digest : GoodIn wsL_law wsX5_digest := goodIn_ca (goodIn_r _ [700, 701, 702, 16, 21, 703, 578, 579, 2, 580, 191, 192, 22, 20, 23, 24, 81, 82, 83, 19, 84, 85, 348, 349, 350, 351, 581, 582, 583, 584, 281, 197, 198, 199, 200, 201, 202, 203, 204, 205, 206, 207, 208, 209, 210, 211, 212, 42, 451, 221, 452, 453, 233, 454, 455, 456, 457, 458, 459, 704, 705, 706, 707, 708, 597, 598, 599, 187, 188, 189, 190, 193, 194, 15, 195, 196, 29, 92, 709, 627, 628, 629, 450, 78, 79, 80, 710, 612, 613, 614, 277, 278, 279, 280, 282, 283, 284, 30, 711, 567, 568, 569, 718, 719, 720, 721, 722, 723, 741, 742, 743, 744, 745, 746, 747, 748, 749, 757, 758, 759, 760, 761, 762, 763, 764, 765, 766, 767, 773, 774, 775, 776, 777, 778, 779, 780, 781, 750, 751, 752, 753, 754, 755, 756] (by decide +kernel) (by decide +kernel)) (goodIn_sub (fun _ h => List.mem_append_right _ h) (by decide +kernel))
