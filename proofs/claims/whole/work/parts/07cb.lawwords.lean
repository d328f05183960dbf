def wsL_law : List Cond := wsL_law0 ++ (vx_atS RX5 44 "java/lang/IllegalArgumentException" ["java/lang/RuntimeException", "java/lang/Exception"]).filter goodWord ++ (vx_atS RX5 58 "java/lang/IllegalStateException" ["java/lang/RuntimeException", "java/lang/Exception"]).filter goodWord ++ (vx_atS RX5 131 "java/lang/IndexOutOfBoundsException" ["java/lang/RuntimeException", "java/lang/Exception"]).filter goodWord
set_option maxRecDepth 20000 in
theorem kA1 : GoodIn lw_tbl wsL_law0_r1 := goodIn_r _ [104, 105, 75, 1133, 1134, 80, 1378, 106, 107, 108, 109, 110, 111, 112, 113, 76, 155, 153, 119, 79, 156, 157, 158, 159] (by decide +kernel) (by decide +kernel)
set_option maxRecDepth 20000 in
theorem kA2 : GoodIn lw_tbl wsL_law0_r2 := goodIn_r _ [160, 115, 116, 117, 118, 144, 146, 120, 121, 122, 130, 132, 123, 124, 78, 125, 134, 126, 127, 77, 128, 129, 154, 1135] (by decide +kernel) (by decide +kernel)
set_option maxRecDepth 20000 in
theorem kA3 : GoodIn lw_tbl wsL_law0_r3 := goodIn_r _ [1136, 1137, 1138, 441, 1148, 1149, 1150, 1151, 1152, 1154, 1155, 342, 343, 74, 344, 345, 347, 348, 349, 350, 351, 84, 367, 85] (by decide +kernel) (by decide +kernel)
set_option maxRecDepth 20000 in
theorem kA4 : GoodIn lw_tbl wsL_law0_r4 := goodIn_r _ [318, 319, 320, 188, 189, 190, 191, 133, 385, 9, 386, 387, 388, 86, 310, 390, 391, 392, 395, 399, 401, 393, 404, 407] (by decide +kernel) (by decide +kernel)
set_option maxRecDepth 20000 in
theorem kA5 : GoodIn lw_tbl wsL_law0_r5 := goodIn_r _ [409, 411, 413, 415, 418, 394, 442, 443, 444, 445, 135, 136, 446, 448, 10, 449, 450, 452, 11, 453, 454, 456, 12, 457] (by decide +kernel) (by decide +kernel)
set_option maxRecDepth 20000 in
theorem kA6 : GoodIn lw_tbl wsL_law0_r6 := goodIn_r _ [500, 462, 88, 463, 501, 458, 459, 87, 460, 461, 464, 465, 466, 467, 468, 469, 89, 470, 471, 1403, 472, 487, 488, 489] (by decide +kernel) (by decide +kernel)
set_option maxRecDepth 20000 in
theorem kA7 : GoodIn lw_tbl wsL_law0_r7 := goodIn_r _ [490, 491, 493, 494, 495, 496, 497, 499, 498, 90, 502, 504, 13, 505, 387, 506, 201, 202, 203, 204, 205, 91, 206, 207] (by decide +kernel) (by decide +kernel)
set_option maxRecDepth 20000 in
theorem kA8 : GoodIn lw_tbl wsL_law0_r8 := goodIn_r _ [208, 92, 209, 210, 211, 212, 213, 1195, 1196, 1197, 1198, 1139, 1141, 1206, 1199, 1200, 1201, 1202, 1204, 47, 1205, 1191, 1192, 1193] (by decide +kernel) (by decide +kernel)
set_option maxRecDepth 20000 in
theorem kA9 : GoodIn lw_tbl wsL_law0_r9 := goodIn_r _ [1194, 507, 508, 509, 510, 511, 512, 513, 514, 302, 304, 5, 305, 226, 93, 312, 308, 6, 309, 200, 516, 517, 518, 523] (by decide +kernel) (by decide +kernel)
set_option maxRecDepth 20000 in
theorem kA10 : GoodIn lw_tbl wsL_law0_r10 := goodIn_r _ [14, 524, 525, 218, 94, 527, 528, 529, 536, 539, 542, 545, 547, 552, 554, 534, 549, 557, 560, 563, 530, 531, 532, 533] (by decide +kernel) (by decide +kernel)
set_option maxRecDepth 20000 in
theorem kA11 : GoodIn lw_tbl wsL_law0_r11 := goodIn_r _ [535, 1207, 1208, 1209, 1210, 1142, 1211, 1213, 48, 1214, 1215, 1217, 49, 1218, 588, 589, 590, 591, 592, 593, 594, 597, 15, 598] (by decide +kernel) (by decide +kernel)
set_option maxRecDepth 20000 in
theorem kA12 : GoodIn lw_tbl wsL_law0_r12 := goodIn_r _ [599, 1219, 1220, 1221, 1222, 601, 602, 603, 604, 605, 606, 607, 327, 329, 7, 330, 214, 333, 8, 334, 610, 16, 611, 614] (by decide +kernel) (by decide +kernel)
set_option maxRecDepth 20000 in
theorem kA13 : GoodIn lw_tbl wsL_law0_r13 := goodIn_r _ [17, 615, 1223, 1224, 1225, 1226, 1227, 1229, 50, 1230, 1231, 1233, 51, 1234, 616, 617, 618, 619, 620, 621, 622, 623, 632, 633] (by decide +kernel) (by decide +kernel)
set_option maxRecDepth 20000 in
theorem kA14 : GoodIn lw_tbl wsL_law0_r14 := goodIn_r _ [95, 625, 627, 18, 628, 635, 636, 637, 638, 639, 640, 642, 644, 657, 1235, 1236, 1237, 1238, 1140, 1239, 1143, 658, 659, 660] (by decide +kernel) (by decide +kernel)
set_option maxRecDepth 20000 in
theorem kA15 : GoodIn lw_tbl wsL_law0_r15 := goodIn_r _ [661, 662, 663, 664, 666, 668, 19, 669, 672, 20, 673, 192, 194, 0, 195, 675, 677, 21, 678, 322, 679, 96, 681, 682] (by decide +kernel) (by decide +kernel)
set_option maxRecDepth 20000 in
theorem kA16 : GoodIn lw_tbl wsL_law0_r16 := goodIn_r _ [683, 684, 686, 688, 691, 693, 695, 697, 700, 702, 725, 22, 726, 729, 23, 730, 732, 731, 733, 734, 735, 736, 978, 737] (by decide +kernel) (by decide +kernel)
set_option maxRecDepth 20000 in
theorem kA17 : GoodIn lw_tbl wsL_law0_r17 := goodIn_r _ [739, 24, 740, 1240, 1241, 1242, 1243, 1144, 1244, 1246, 52, 1247, 1153, 1248, 1250, 53, 1251, 1252, 1254, 54, 1255, 1256, 1258, 55] (by decide +kernel) (by decide +kernel)
set_option maxRecDepth 20000 in
theorem kA18 : GoodIn lw_tbl wsL_law0_r18 := goodIn_r _ [1259, 1260, 1262, 56, 1263, 1264, 1266, 57, 1267, 1147, 979, 980, 981, 982, 983, 984, 985, 987, 989, 26, 990, 632, 993, 27] (by decide +kernel) (by decide +kernel)
set_option maxRecDepth 20000 in
theorem kA19 : GoodIn lw_tbl wsL_law0_r19 := goodIn_r _ [994, 995, 997, 28, 998, 999, 1001, 29, 1002, 1003, 1005, 30, 1006, 1007, 1009, 31, 1010, 322, 217, 2, 219, 225, 220, 221] (by decide +kernel) (by decide +kernel)
set_option maxRecDepth 20000 in
theorem kA20 : GoodIn lw_tbl wsL_law0_r20 := goodIn_r _ [222, 223, 224, 1011, 1013, 32, 1014, 1015, 1016, 1017, 1018, 1019, 1021, 33, 1022, 1023, 1025, 34, 1026, 1027, 1029, 35, 1030, 1031] (by decide +kernel) (by decide +kernel)
set_option maxRecDepth 20000 in
theorem kA21 : GoodIn lw_tbl wsL_law0_r21 := goodIn_r _ [1033, 36, 1034, 1037, 37, 1038, 1043, 525, 1039, 1041, 38, 1042, 1044, 1045, 1046, 1049, 39, 1050, 1053, 40, 1054, 1055, 1056, 1057] (by decide +kernel) (by decide +kernel)
set_option maxRecDepth 20000 in
theorem kA22 : GoodIn lw_tbl wsL_law0_r22 := goodIn_r _ [1058, 1061, 41, 1062, 1063, 1066, 42, 1067, 1068, 1268, 1269, 1270, 1271, 1145, 1272, 1274, 58, 1275, 1276, 1278, 59, 1279, 1280, 1282] (by decide +kernel) (by decide +kernel)
set_option maxRecDepth 20000 in
theorem kA23 : GoodIn lw_tbl wsL_law0_r23 := goodIn_r _ [60, 1283, 1284, 1286, 61, 1287, 1288, 1290, 62, 1291, 1146, 1292, 1294, 63, 1295, 1296, 1298, 64, 1299, 1300, 1302, 65, 1303, 1304] (by decide +kernel) (by decide +kernel)
set_option maxRecDepth 20000 in
theorem kA24 : GoodIn lw_tbl wsL_law0_r24 := goodIn_r _ [1306, 66, 1307, 1308, 1310, 67, 1311, 1312, 1314, 68, 1315, 1316, 1318, 69, 1319, 1069, 1070, 1071, 1072, 337, 338, 339, 1320, 1321] (by decide +kernel) (by decide +kernel)
set_option maxRecDepth 20000 in
theorem kA25 : GoodIn lw_tbl wsL_law0_r25 := goodIn_r _ [1322, 1323, 1073, 1074, 1075, 1076, 185, 186, 187, 196, 198, 1, 199, 1324, 1325, 1326, 1327, 1328, 1330, 70, 1331, 1077, 1078, 1079] (by decide +kernel) (by decide +kernel)
set_option maxRecDepth 20000 in
theorem kA26 : GoodIn lw_tbl wsL_law0_r26 := goodIn_r _ [1080, 299, 300, 301, 1332, 1333, 1334, 1335, 1336, 1338, 71, 1339, 1081, 1082, 1083, 1084, 324, 325, 326, 1340, 1341, 1342, 1343, 1344] (by decide +kernel) (by decide +kernel)
set_option maxRecDepth 20000 in
theorem kA27 : GoodIn lw_tbl wsL_law0_r27 := goodIn_r _ [1346, 72, 1347, 1085, 1086, 1087, 1088, 315, 316, 317, 1348, 1349, 1350, 1351, 1089, 1090, 1091, 1092, 1093, 1094, 1095, 1100, 1098, 43] (by decide +kernel) (by decide +kernel)
set_option maxRecDepth 20000 in
theorem kA28 : GoodIn lw_tbl wsL_law0_r28 := goodIn_r _ [1099, 1352, 1353, 1354, 1355, 1101, 1102, 1103, 1104, 1105, 1106, 1107, 1356, 1357, 1358, 1359, 1108, 1109, 1110, 1111, 1112, 1113, 1114, 1117] (by decide +kernel) (by decide +kernel)
set_option maxRecDepth 20000 in
theorem kA29 : GoodIn lw_tbl wsL_law0_r29 := goodIn_r _ [44, 1118, 1119, 1121, 45, 1122, 1123, 1125, 46, 1126, 1127, 1128, 103, 1129, 1130, 1131, 1132, 1360, 1361, 1362, 1363, 1364, 1366, 73] (by decide +kernel) (by decide +kernel)
set_option maxRecDepth 20000 in
theorem kA30 : GoodIn lw_tbl wsL_law0_r30 := goodIn_r _ [1367, 174, 175, 176, 177, 1368, 1369, 1370, 1371, 178, 179, 180, 181, 182, 183, 184, 294, 296, 4, 297, 298, 314, 323, 336] (by decide +kernel) (by decide +kernel)
set_option maxRecDepth 20000 in
theorem kA31 : GoodIn lw_tbl wsL_law0_r31 := goodIn_r _ [1372, 1373, 1374, 1375, 1376, 1377] (by decide +kernel) (by decide +kernel)
set_option maxRecDepth 20000 in
theorem kE_wsX50 : GoodIn lw_tbl wsX50 := goodIn_r _ [161, 163, 165, 167, 169, 171] (by decide +kernel) (by decide +kernel)
set_option maxRecDepth 20000 in
theorem kE_wsX60 : GoodIn lw_tbl wsX60 := goodIn_r _ [1156, 1158, 1160, 1162, 1164, 1166, 1168, 1170, 1172, 1174, 1176, 1178, 1180, 1182, 1184, 1186, 1188] (by decide +kernel) (by decide +kernel)
set_option maxRecDepth 20000 in
theorem kE_wsX20 : GoodIn lw_tbl wsX20 := goodIn_r _ [148, 150] (by decide +kernel) (by decide +kernel)
set_option maxRecDepth 20000 in
theorem kE_wsJx4a65c0 : GoodIn lw_tbl wsJx4a65c0 := goodIn_r _ [141, 137, 139] (by decide +kernel) (by decide +kernel)
set_option maxRecDepth 20000 in
theorem kE_wsX30 : GoodIn lw_tbl wsX30 := goodIn_r _ [420, 422, 424, 426, 428, 430, 432, 434, 436, 438] (by decide +kernel) (by decide +kernel)
set_option maxRecDepth 20000 in
theorem kE_wsX40 : GoodIn lw_tbl wsX40 := goodIn_r _ [565, 567, 569, 571, 573, 575, 577, 579, 581, 583, 585] (by decide +kernel) (by decide +kernel)
set_option maxRecDepth 20000 in
theorem kE_wsX10 : GoodIn lw_tbl wsX10 := goodIn_r _ [646, 648, 650, 652, 654] (by decide +kernel) (by decide +kernel)
set_option maxRecDepth 20000 in
theorem kE_wsX00 : GoodIn lw_tbl wsX00 := goodIn_r _ [704, 706, 708, 710, 712, 714, 716, 718, 720] (by decide +kernel) (by decide +kernel)
theorem kA_nil : GoodIn lw_tbl ([] : List Cond) := fun _ h => absurd h List.not_mem_nil
theorem wsL_law_in0 : ∀ w ∈ wsL_law0, w ∈ lw_tbl := fun w h => ((goodIn_app (goodIn_app (goodIn_app (goodIn_app (goodIn_app (goodIn_app (goodIn_app (goodIn_app (goodIn_app (goodIn_app kA1 (goodIn_app kA2 (goodIn_app kA3 (goodIn_app kA4 (goodIn_app kA5 (goodIn_app kA6 (goodIn_app kA7 (goodIn_app kA8 (goodIn_app kA9 (goodIn_app kA10 (goodIn_app kA11 (goodIn_app kA12 (goodIn_app kA13 (goodIn_app kA14 (goodIn_app kA15 (goodIn_app kA16 (goodIn_app kA17 (goodIn_app kA18 (goodIn_app kA19 (goodIn_app kA20 (goodIn_app kA21 (goodIn_app kA22 (goodIn_app kA23 (goodIn_app kA24 (goodIn_app kA25 (goodIn_app kA26 (goodIn_app kA27 (goodIn_app kA28 (goodIn_app kA29 (goodIn_app kA30 kA31)))))))))))))))))))))))))))))) kE_wsX50) kE_wsX60) kE_wsX20) kE_wsJx4a65c0) kE_wsX30) kE_wsX40) kE_wsX10) kE_wsX00) kA_nil) w h).1
theorem wsL_law_x0 : ∀ w ∈ (vx_atS RX5 44 "java/lang/IllegalArgumentException" ["java/lang/RuntimeException", "java/lang/Exception"]).filter goodWord, w ∈ lw_tbl := by decide +kernel
theorem wsL_law_x1 : ∀ w ∈ (vx_atS RX5 58 "java/lang/IllegalStateException" ["java/lang/RuntimeException", "java/lang/Exception"]).filter goodWord, w ∈ lw_tbl := by decide +kernel
theorem wsL_law_x2 : ∀ w ∈ (vx_atS RX5 131 "java/lang/IndexOutOfBoundsException" ["java/lang/RuntimeException", "java/lang/Exception"]).filter goodWord, w ∈ lw_tbl := by decide +kernel
theorem wsL_law_in : ∀ w ∈ wsL_law, w ∈ lw_tbl := fun w h => (List.mem_append.mp h).elim (fun h => (List.mem_append.mp h).elim (fun h => (List.mem_append.mp h).elim (fun h => wsL_law_in0 w h) (fun h => wsL_law_x0 w h)) (fun h => wsL_law_x1 w h)) (fun h => wsL_law_x2 w h)
theorem inlX0 : ∀ w ∈ wsX00, w ∈ wsL_law := fun _ h => List.mem_append_left _ (List.mem_append_left _ (List.mem_append_left _ (List.mem_append_left _ (List.mem_append_right _ h))))
theorem inX0 : ∀ w ∈ wsX00, w ∈ lw_tbl := fun w h => wsL_law_in w (inlX0 w h)
theorem inlX1 : ∀ w ∈ wsX10, w ∈ wsL_law := fun _ h => List.mem_append_left _ (List.mem_append_left _ (List.mem_append_left _ (List.mem_append_left _ (List.mem_append_left _ (List.mem_append_right _ h)))))
theorem inX1 : ∀ w ∈ wsX10, w ∈ lw_tbl := fun w h => wsL_law_in w (inlX1 w h)
theorem inlX2 : ∀ w ∈ wsX20, w ∈ wsL_law := fun _ h => List.mem_append_left _ (List.mem_append_left _ (List.mem_append_left _ (List.mem_append_left _ (List.mem_append_left _ (List.mem_append_left _ (List.mem_append_left _ (List.mem_append_left _ (List.mem_append_left _ (List.mem_append_right _ h)))))))))
theorem inX2 : ∀ w ∈ wsX20, w ∈ lw_tbl := fun w h => wsL_law_in w (inlX2 w h)
theorem inlX3 : ∀ w ∈ wsX30, w ∈ wsL_law := fun _ h => List.mem_append_left _ (List.mem_append_left _ (List.mem_append_left _ (List.mem_append_left _ (List.mem_append_left _ (List.mem_append_left _ (List.mem_append_left _ (List.mem_append_right _ h)))))))
theorem inX3 : ∀ w ∈ wsX30, w ∈ lw_tbl := fun w h => wsL_law_in w (inlX3 w h)
theorem inlX4 : ∀ w ∈ wsX40, w ∈ wsL_law := fun _ h => List.mem_append_left _ (List.mem_append_left _ (List.mem_append_left _ (List.mem_append_left _ (List.mem_append_left _ (List.mem_append_left _ (List.mem_append_right _ h))))))
theorem inX4 : ∀ w ∈ wsX40, w ∈ lw_tbl := fun w h => wsL_law_in w (inlX4 w h)
theorem inlX5 : ∀ w ∈ wsX50, w ∈ wsL_law := fun _ h => List.mem_append_left _ (List.mem_append_left _ (List.mem_append_left _ (List.mem_append_left _ (List.mem_append_left _ (List.mem_append_left _ (List.mem_append_left _ (List.mem_append_left _ (List.mem_append_left _ (List.mem_append_left _ (List.mem_append_left _ (List.mem_append_right _ h)))))))))))
theorem inX5 : ∀ w ∈ wsX50, w ∈ lw_tbl := fun w h => wsL_law_in w (inlX5 w h)
theorem inlX6 : ∀ w ∈ wsX60, w ∈ wsL_law := fun _ h => List.mem_append_left _ (List.mem_append_left _ (List.mem_append_left _ (List.mem_append_left _ (List.mem_append_left _ (List.mem_append_left _ (List.mem_append_left _ (List.mem_append_left _ (List.mem_append_left _ (List.mem_append_left _ (List.mem_append_right _ h))))))))))
theorem inX6 : ∀ w ∈ wsX60, w ∈ lw_tbl := fun w h => wsL_law_in w (inlX6 w h)
theorem inlJx4a65c : ∀ w ∈ wsJx4a65c0, w ∈ wsL_law := fun _ h => List.mem_append_left _ (List.mem_append_left _ (List.mem_append_left _ (List.mem_append_left _ (List.mem_append_left _ (List.mem_append_left _ (List.mem_append_left _ (List.mem_append_left _ (List.mem_append_right _ h))))))))
theorem inJx4a65c : ∀ w ∈ wsJx4a65c0, w ∈ lw_tbl := fun w h => wsL_law_in w (inlJx4a65c w h)
set_option maxRecDepth 20000 in
theorem ggL_law_X5_init : GoodIn wsL_law wsX5_init := goodIn_r _ [9, 10, 11, 12, 13, 14, 15, 16, 17, 18, 19, 20, 21, 22, 23, 24, 25, 26, 27, 28, 29, 30, 31, 32, 33, 34, 35, 36, 37, 38, 39, 40, 41, 42, 43, 44, 45, 46, 749, 750, 726, 727, 728, 729, 730, 731, 751, 752, 753] (by decide +kernel) (by decide +kernel)
set_option maxRecDepth 20000 in
theorem gL_law_X5_init : GoodIn wsL_law (wsX5_init) := ggL_law_X5_init
set_option maxRecDepth 20000 in
theorem ggL_law_X6_init : GoodIn wsL_law wsX6_init := goodIn_r _ [49, 50, 11, 12, 51, 52, 53, 54, 55, 56, 57, 58, 732, 733, 734, 735, 736, 737, 738, 739, 740, 741, 742, 743, 744, 745, 746, 747, 748] (by decide +kernel) (by decide +kernel)
set_option maxRecDepth 20000 in
theorem gL_law_X6_init : GoodIn wsL_law (wsX6_init) := ggL_law_X6_init
set_option maxRecDepth 20000 in
theorem ggL_law_L_addStation : GoodIn wsL_law wsL_addStation := goodIn_ca (goodIn_ca (goodIn_r _ [62, 63, 64, 65, 66, 2, 67, 68, 69, 70, 71, 16, 72, 73, 74, 75, 76, 77, 19, 78, 79, 80, 15, 81, 82, 29, 83, 84, 85, 86, 87, 88, 89, 11, 12, 90, 91, 92, 93, 18, 94, 95, 51, 96, 97, 98, 99, 100, 101, 32, 33, 34, 35, 36, 37, 38, 39, 40, 41, 42, 43, 44, 45, 102, 103, 104, 105, 106, 107, 108, 109, 110, 111, 112, 113, 114, 115, 116, 117, 118, 119, 120, 121, 122, 123, 124, 125, 126, 127, 128, 129, 130, 131, 132, 133, 134, 135, 136, 137, 138, 139, 140, 141, 142, 143, 144, 145, 146, 147, 148, 149, 150, 151, 152, 153, 154, 155, 156, 157, 158, 159, 160, 161, 162, 163, 164, 165, 166, 167, 168, 169, 170, 171, 172, 173, 174, 726, 727, 728, 729, 730, 731, 749, 750, 751, 752, 753, 754, 755, 756, 757, 758, 759, 760, 761, 762, 763] (by decide +kernel) (by decide +kernel)) (goodIn_sub (fun _ h => List.mem_append_left _ (List.mem_append_left _ (List.mem_append_right _ h))) (by decide +kernel))) (goodIn_sub (fun _ h => List.mem_append_left _ (List.mem_append_right _ h)) (by decide +kernel))
set_option maxRecDepth 20000 in
theorem gL_law_L_addStation : GoodIn wsL_law (va_wsS RL 69 yL_addStation wsL_addStation) := goodIn_app (goodIn_of _ (by decide +kernel)) ggL_law_L_addStation
set_option maxRecDepth 20000 in
theorem ggL_law_X6_addStation : GoodIn wsL_law wsX6_addStation := goodIn_r _ [178, 179, 180, 51, 52, 181, 151, 152, 153, 182, 183, 5, 184, 185, 186, 187, 188, 732, 733, 734, 735, 736, 737, 738, 739, 740, 741, 742, 743, 744, 745, 746, 747, 748] (by decide +kernel) (by decide +kernel)
set_option maxRecDepth 20000 in
theorem gL_law_X6_addStation : GoodIn wsL_law (wsV RL 74 RX6 yX6_addStation wsX6_addStation) := goodIn_app (goodIn_of _ (by decide +kernel)) ggL_law_X6_addStation
set_option maxRecDepth 20000 in
theorem ggL_law_X6_thrown : GoodIn wsL_law wsX6_thrown := goodIn_r _ [192, 179, 732, 733, 734, 735, 736, 737, 738, 739, 740, 741, 742, 743, 744, 745, 746, 747, 748] (by decide +kernel) (by decide +kernel)
set_option maxRecDepth 20000 in
theorem gL_law_X6_thrown : GoodIn wsL_law (wsV RL 75 RX6 yX6_thrown wsX6_thrown) := goodIn_app (goodIn_of _ (by decide +kernel)) ggL_law_X6_thrown
set_option maxRecDepth 20000 in
theorem ggL_law_L_addTube : GoodIn wsL_law wsL_addTube := goodIn_ca (goodIn_ca (goodIn_ca (goodIn_r _ [195, 196, 197, 198, 199, 2, 200, 68, 69, 70, 71, 16, 201, 202, 203, 204, 205, 206, 207, 208, 15, 209, 210, 29, 86, 76, 77, 19, 78, 79, 211, 160, 161, 162, 163, 164, 165, 166, 167, 168, 169, 170, 171, 172, 173, 174, 35, 72, 73, 74, 212, 213, 214, 75, 215, 216, 217, 218, 219, 220, 30, 221, 222, 223, 11, 12, 224, 225, 226, 227, 228, 229, 230, 231, 18, 232, 233, 234, 235, 236, 237, 238, 239, 240, 32, 33, 34, 36, 37, 38, 39, 40, 41, 42, 43, 44, 45, 102, 103, 104, 105, 106, 107, 108, 109, 110, 111, 112, 113, 114, 115, 116, 117, 118, 119, 120, 121, 122, 123, 124, 125, 126, 127, 128, 129, 130, 131, 132, 133, 134, 135, 136, 137, 138, 139, 140, 141, 142, 143, 144, 145, 146, 147, 148, 149, 150, 151, 152, 153, 154, 155, 156, 157, 158, 159, 726, 727, 728, 729, 730, 731, 749, 750, 754, 755, 756, 757, 758, 759, 760, 761, 762, 763, 751, 752, 753, 764, 765, 766, 767, 768, 769, 770, 771, 772, 773, 774] (by decide +kernel) (by decide +kernel)) (goodIn_sub (fun _ h => List.mem_append_left _ (List.mem_append_left _ (List.mem_append_right _ h))) (by decide +kernel))) (goodIn_sub (fun _ h => List.mem_append_left _ (List.mem_append_right _ h)) (by decide +kernel))) (goodIn_sub (fun _ h => List.mem_append_right _ h) (by decide +kernel))
set_option maxRecDepth 20000 in
theorem gL_law_L_addTube : GoodIn wsL_law (va_wsS RL 79 yL_addTube wsL_addTube) := goodIn_app (goodIn_of _ (by decide +kernel)) ggL_law_L_addTube
set_option maxRecDepth 20000 in
theorem ggL_law_X6_addTube : GoodIn wsL_law wsX6_addTube := goodIn_r _ [244, 179, 245, 51, 53, 181, 151, 152, 153, 52, 246, 247, 248, 5, 249, 180, 182, 183, 184, 185, 186, 187, 188, 250, 251, 252, 253, 732, 733, 734, 735, 736, 737, 738, 739, 740, 741, 742, 743, 744, 745, 746, 747, 748] (by decide +kernel) (by decide +kernel)
set_option maxRecDepth 20000 in
theorem gL_law_X6_addTube : GoodIn wsL_law (wsV RL 82 RX6 yX6_addTube wsX6_addTube) := goodIn_app (goodIn_of _ (by decide +kernel)) ggL_law_X6_addTube
set_option maxRecDepth 20000 in
theorem ggL_law_L_turn : GoodIn wsL_law wsL_turn := goodIn_ca (goodIn_ca (goodIn_r _ [256, 196, 257, 258, 259, 2, 260, 68, 69, 201, 202, 203, 204, 205, 206, 16, 207, 208, 15, 209, 210, 29, 86, 76, 77, 19, 78, 79, 211, 160, 161, 162, 163, 164, 165, 166, 167, 168, 169, 170, 171, 172, 173, 174, 35, 261, 85, 262, 263, 94, 264, 754, 755, 756, 757, 758, 759, 760, 761, 762, 763, 726, 727, 728, 729, 730, 731, 749, 750, 751, 752, 753] (by decide +kernel) (by decide +kernel)) (goodIn_sub (fun _ h => List.mem_append_left _ (List.mem_append_left _ (List.mem_append_right _ h))) (by decide +kernel))) (goodIn_sub (fun _ h => List.mem_append_right _ h) (by decide +kernel))
set_option maxRecDepth 20000 in
theorem gL_law_L_turn : GoodIn wsL_law (va_wsS RL 83 yL_turn wsL_turn) := goodIn_app (goodIn_of _ (by decide +kernel)) ggL_law_L_turn
set_option maxRecDepth 20000 in
theorem ggL_law_X6_turn : GoodIn wsL_law wsX6_turn := goodIn_r _ [268, 179, 52, 246, 247, 248, 5, 249, 180, 182, 183, 184, 185, 186, 187, 188, 250, 251, 252, 253, 732, 733, 734, 735, 736, 737, 738, 739, 740, 741, 742, 743, 744, 745, 746, 747, 748] (by decide +kernel) (by decide +kernel)
set_option maxRecDepth 20000 in
theorem gL_law_X6_turn : GoodIn wsL_law (wsV RL 85 RX6 yX6_turn wsX6_turn) := goodIn_app (goodIn_of _ (by decide +kernel)) ggL_law_X6_turn
set_option maxRecDepth 20000 in
theorem ggL_law_L_setTube : GoodIn wsL_law wsL_setTube := goodIn_ca (goodIn_ca (goodIn_r _ [271, 196, 272, 273, 274, 2, 275, 16, 276, 277, 278, 279, 205, 206, 280, 281, 15, 282, 283, 30, 86, 76, 77, 19, 78, 79, 211, 160, 161, 162, 163, 164, 165, 166, 167, 168, 169, 170, 171, 172, 173, 174, 35, 212, 213, 214, 68, 69, 72, 73, 74, 284, 285, 286, 287, 220, 288, 289, 229, 227, 230, 236, 237, 238, 239, 154, 155, 156, 157, 29, 158, 159, 764, 765, 766, 767, 768, 769, 770, 771, 772, 773, 774, 726, 727, 728, 729, 730, 731, 749, 750, 751, 752, 753, 754, 755, 756, 757, 758, 759, 760, 761, 762, 763] (by decide +kernel) (by decide +kernel)) (goodIn_sub (fun _ h => List.mem_append_right _ h) (by decide +kernel))) (goodIn_sub (fun _ h => List.mem_append_left _ (List.mem_append_left _ (List.mem_append_right _ h))) (by decide +kernel))
set_option maxRecDepth 20000 in
theorem gL_law_L_setTube : GoodIn wsL_law (va_wsS RL 86 yL_setTube wsL_setTube) := goodIn_app (goodIn_of _ (by decide +kernel)) ggL_law_L_setTube
set_option maxRecDepth 20000 in
theorem ggL_law_X6_setTube : GoodIn wsL_law wsX6_setTube := goodIn_r _ [293, 179, 53, 294, 295, 296, 5, 297, 245, 182, 183, 184, 185, 186, 187, 188, 298, 299, 300, 301, 732, 733, 734, 735, 736, 737, 738, 739, 740, 741, 742, 743, 744, 745, 746, 747, 748] (by decide +kernel) (by decide +kernel)
set_option maxRecDepth 20000 in
theorem gL_law_X6_setTube : GoodIn wsL_law (wsV RL 89 RX6 yX6_setTube wsX6_setTube) := goodIn_app (goodIn_of _ (by decide +kernel)) ggL_law_X6_setTube
set_option maxRecDepth 20000 in
theorem ggL_law_L_addEntry : GoodIn wsL_law wsL_addEntry := goodIn_ca (goodIn_ca (goodIn_ca (goodIn_r _ [304, 63, 305, 306, 307, 2, 308, 68, 69, 70, 71, 22, 309, 20, 310, 311, 312, 72, 73, 74, 313, 314, 315, 316, 205, 206, 276, 277, 278, 279, 16, 280, 281, 15, 282, 283, 30, 86, 76, 77, 19, 78, 79, 211, 160, 161, 162, 163, 164, 165, 166, 167, 168, 169, 170, 171, 172, 173, 174, 35, 201, 202, 203, 204, 207, 208, 209, 210, 29, 261, 85, 262, 263, 94, 264, 75, 317, 318, 319, 11, 12, 320, 321, 322, 323, 324, 325, 103, 104, 105, 106, 107, 108, 109, 110, 111, 112, 113, 114, 115, 116, 117, 118, 119, 34, 120, 121, 122, 123, 124, 125, 126, 127, 128, 129, 130, 131, 132, 133, 134, 135, 136, 137, 138, 139, 140, 141, 142, 143, 144, 145, 146, 147, 148, 149, 150, 151, 152, 153, 726, 727, 728, 729, 730, 731, 775, 776, 777, 778, 779, 749, 750, 751, 752, 753, 754, 755, 756, 757, 758, 759, 760, 761, 762, 763] (by decide +kernel) (by decide +kernel)) (goodIn_sub (fun _ h => List.mem_append_left _ (List.mem_append_left _ (List.mem_append_right _ h))) (by decide +kernel))) (goodIn_sub (fun _ h => List.mem_append_left _ (List.mem_append_right _ h)) (by decide +kernel))) (goodIn_sub (fun _ h => List.mem_append_right _ h) (by decide +kernel))
set_option maxRecDepth 20000 in
theorem gL_law_L_addEntry : GoodIn wsL_law (va_wsS RL 90 yL_addEntry wsL_addEntry) := goodIn_app (goodIn_of _ (by decide +kernel)) ggL_law_L_addEntry
set_option maxRecDepth 20000 in
theorem ggL_law_X6_addEntry : GoodIn wsL_law wsX6_addEntry := goodIn_r _ [329, 179, 330, 331, 332, 51, 54, 181, 151, 152, 153, 182, 183, 5, 184, 185, 186, 187, 188, 246, 247, 248, 249, 180, 250, 251, 252, 253, 52, 294, 295, 296, 297, 245, 732, 733, 734, 735, 736, 737, 738, 739, 740, 741, 742, 743, 744, 745, 746, 747, 748] (by decide +kernel) (by decide +kernel)
set_option maxRecDepth 20000 in
theorem gL_law_X6_addEntry : GoodIn wsL_law (wsV RL 92 RX6 yX6_addEntry wsX6_addEntry) := goodIn_app (goodIn_of _ (by decide +kernel)) ggL_law_X6_addEntry
set_option maxRecDepth 20000 in
theorem ggL_law_L_send : GoodIn wsL_law wsL_send := goodIn_ca (goodIn_ca (goodIn_ca (goodIn_r _ [335, 196, 336, 337, 338, 2, 339, 68, 69, 70, 71, 21, 201, 202, 203, 204, 205, 206, 16, 207, 208, 15, 209, 210, 29, 86, 76, 77, 19, 78, 79, 211, 160, 161, 162, 163, 164, 165, 166, 167, 168, 169, 170, 171, 172, 173, 174, 35, 72, 73, 74, 340, 341, 342, 343, 344, 85, 345, 346, 95, 91, 264, 347, 348, 349, 350, 23, 75, 351, 352, 353, 354, 355, 356, 357, 22, 358, 359, 360, 11, 12, 361, 362, 363, 364, 365, 366, 367, 368, 369, 325, 103, 104, 105, 106, 107, 108, 109, 110, 111, 112, 113, 114, 115, 116, 117, 118, 119, 34, 120, 121, 122, 123, 124, 125, 126, 127, 128, 129, 130, 131, 132, 133, 134, 135, 136, 137, 138, 139, 140, 141, 142, 143, 144, 145, 146, 147, 148, 149, 150, 151, 152, 153, 370, 371, 372, 373, 374, 375, 376, 377, 378, 379, 380, 381, 382, 383, 384, 385, 386, 726, 727, 728, 729, 730, 731, 749, 750, 751, 752, 753, 754, 755, 756, 757, 758, 759, 760, 761, 762, 763, 780, 781, 782, 783, 784, 785, 786, 787, 788] (by decide +kernel) (by decide +kernel)) (goodIn_sub (fun _ h => List.mem_append_left _ (List.mem_append_left _ (List.mem_append_right _ h))) (by decide +kernel))) (goodIn_sub (fun _ h => List.mem_append_left _ (List.mem_append_right _ h)) (by decide +kernel))) (goodIn_sub (fun _ h => List.mem_append_right _ h) (by decide +kernel))
set_option maxRecDepth 20000 in
theorem gL_law_L_send : GoodIn wsL_law (va_wsS RL 93 yL_send wsL_send) := goodIn_app (goodIn_of _ (by decide +kernel)) ggL_law_L_send
set_option maxRecDepth 20000 in
theorem ggL_law_X6_send : GoodIn wsL_law wsX6_send := goodIn_r _ [390, 179, 391, 246, 247, 248, 5, 249, 180, 182, 183, 184, 185, 186, 187, 188, 392, 393, 394, 395, 396, 397, 398, 399, 400, 56, 401, 402, 403, 404, 55, 250, 251, 252, 253, 52, 405, 406, 407, 408, 330, 409, 410, 411, 412, 413, 414, 415, 416, 417, 732, 733, 734, 735, 736, 737, 738, 739, 740, 741, 742, 743, 744, 745, 746, 747, 748] (by decide +kernel) (by decide +kernel)
set_option maxRecDepth 20000 in
theorem gL_law_X6_send : GoodIn wsL_law (wsV RL 96 RX6 yX6_send wsX6_send) := goodIn_app (goodIn_of _ (by decide +kernel)) ggL_law_X6_send
theorem kL0 {ws : List Cond} (h : GoodIn wsL_law0 ws) : GoodIn wsL_law ws := fun w hw => ⟨List.mem_append_left _ (List.mem_append_left _ (List.mem_append_left _ (h w hw).1)), (h w hw).2⟩
set_option maxRecDepth 20000 in
theorem kB1 : GoodIn wsL_law0 wsL_run_r1 := goodIn_r _ [63, 421, 422, 423, 2, 424, 68, 69, 23, 22, 72, 73, 74, 425, 426, 427, 428, 20, 310, 75, 76, 77, 19, 78] (by decide +kernel) (by decide +kernel)
set_option maxRecDepth 20000 in
theorem kB2 : GoodIn wsL_law0 wsL_run_r2 := goodIn_r _ [79, 211, 160, 161, 162, 163, 164, 165, 166, 167, 168, 169, 170, 171, 172, 173, 174, 35, 430, 312, 431, 432, 321, 320] (by decide +kernel) (by decide +kernel)
set_option maxRecDepth 20000 in
theorem kB3 : GoodIn wsL_law0 wsL_run_r3 := goodIn_r _ [433, 434, 435, 436, 16, 280, 207, 281, 15, 282, 283, 30, 86, 284, 285, 286, 287, 220, 288, 289, 229, 227, 230, 236] (by decide +kernel) (by decide +kernel)
set_option maxRecDepth 20000 in
theorem kB4 : GoodIn wsL_law0 wsL_run_r4 := goodIn_r _ [237, 238, 239, 154, 155, 156, 157, 29, 83, 159, 208, 209, 210, 437, 438, 439, 440, 340, 341, 342, 343, 21, 344, 85] (by decide +kernel) (by decide +kernel)
set_option maxRecDepth 20000 in
theorem kB5 : GoodIn wsL_law0 wsL_run_r5 := goodIn_r _ [345, 346, 95, 91, 264, 347, 348, 349, 350, 351, 352, 353, 354, 355, 356, 357, 358, 359, 360, 11, 12, 361, 362, 363] (by decide +kernel) (by decide +kernel)
set_option maxRecDepth 20000 in
theorem kB6 : GoodIn wsL_law0 wsL_run_r6 := goodIn_r _ [364, 365, 366, 367, 368, 369, 325, 103, 104, 105, 106, 107, 108, 109, 110, 111, 112, 113, 114, 115, 116, 117, 118, 119] (by decide +kernel) (by decide +kernel)
set_option maxRecDepth 20000 in
theorem kB7 : GoodIn wsL_law0 wsL_run_r7 := goodIn_r _ [34, 120, 121, 122, 123, 124, 125, 126, 127, 128, 129, 130, 131, 132, 133, 134, 135, 136, 137, 138, 139, 140, 141, 142] (by decide +kernel) (by decide +kernel)
set_option maxRecDepth 20000 in
theorem kB8 : GoodIn wsL_law0 wsL_run_r8 := goodIn_r _ [143, 144, 145, 146, 147, 148, 149, 150, 151, 152, 153, 370, 371, 372, 373, 374, 375, 376, 377, 378, 379, 380, 381, 382] (by decide +kernel) (by decide +kernel)
set_option maxRecDepth 20000 in
theorem kB9 : GoodIn wsL_law0 wsL_run_r9 := goodIn_r _ [383, 384, 385, 386, 441, 442, 443, 444, 445, 446, 447, 448, 355, 450, 451, 452, 232, 453, 454, 455, 456, 457, 458, 459] (by decide +kernel) (by decide +kernel)
set_option maxRecDepth 20000 in
theorem kB10 : GoodIn wsL_law0 wsL_run_r10 := goodIn_r _ [460, 461, 462, 24, 463, 464, 465, 466, 467, 468, 469, 470, 471, 472, 473, 474, 475, 476, 477, 478, 479, 480, 481, 482] (by decide +kernel) (by decide +kernel)
set_option maxRecDepth 20000 in
theorem kB11 : GoodIn wsL_law0 wsL_run_r11 := goodIn_r _ [483, 484, 485, 486, 218, 488, 489, 490, 491, 492, 493, 494, 495, 496, 497, 90, 96, 498, 499, 500, 501, 502, 503, 504] (by decide +kernel) (by decide +kernel)
set_option maxRecDepth 20000 in
theorem kB12 : GoodIn wsL_law0 wsL_run_r12 := goodIn_r _ [505, 506, 507, 233, 228, 235, 508, 509, 510, 511, 512] (by decide +kernel) (by decide +kernel)
set_option maxRecDepth 20000 in
theorem kD_wsX50 : GoodIn wsL_law0 wsX50 := goodIn_r _ [726, 727, 728, 729, 730, 731] (by decide +kernel) (by decide +kernel)
set_option maxRecDepth 20000 in
theorem kD_wsJx4a65c0 : GoodIn wsL_law0 wsJx4a65c0 := goodIn_r _ [751, 752, 753] (by decide +kernel) (by decide +kernel)
set_option maxRecDepth 20000 in
theorem kD_wsX10 : GoodIn wsL_law0 wsX10 := goodIn_r _ [775, 776, 777, 778, 779] (by decide +kernel) (by decide +kernel)
set_option maxRecDepth 20000 in
theorem kD_wsX20 : GoodIn wsL_law0 wsX20 := goodIn_r _ [749, 750] (by decide +kernel) (by decide +kernel)
set_option maxRecDepth 20000 in
theorem kD_wsX40 : GoodIn wsL_law0 wsX40 := goodIn_r _ [764, 765, 766, 767, 768, 769, 770, 771, 772, 773, 774] (by decide +kernel) (by decide +kernel)
set_option maxRecDepth 20000 in
theorem kD_wsX30 : GoodIn wsL_law0 wsX30 := goodIn_r _ [754, 755, 756, 757, 758, 759, 760, 761, 762, 763] (by decide +kernel) (by decide +kernel)
set_option maxRecDepth 20000 in
theorem kD_wsX00 : GoodIn wsL_law0 wsX00 := goodIn_r _ [780, 781, 782, 783, 784, 785, 786, 787, 788] (by decide +kernel) (by decide +kernel)
set_option maxRecDepth 20000 in
theorem kD_wsX60 : GoodIn wsL_law0 wsX60 := goodIn_r _ [732, 733, 734, 735, 736, 737, 738, 739, 740, 741, 742, 743, 744, 745, 746, 747, 748] (by decide +kernel) (by decide +kernel)
set_option maxRecDepth 20000 in
theorem kF0 : GoodIn wsL_law0 [Cond.codeWith yL_run cL_run 4 (some .int) [(0, 9, 12, 13)]] := goodIn_r _ [420] (by decide +kernel) (by decide +kernel)
theorem ggL_law_L_run : GoodIn wsL_law wsL_run := goodIn_ca (kL0 (goodIn_app kF0 (goodIn_app (goodIn_app (goodIn_app (goodIn_app (goodIn_app (goodIn_app (goodIn_app (goodIn_app kB1 (goodIn_app kB2 (goodIn_app kB3 (goodIn_app kB4 (goodIn_app kB5 (goodIn_app kB6 (goodIn_app kB7 (goodIn_app kB8 (goodIn_app kB9 (goodIn_app kB10 (goodIn_app kB11 kB12))))))))))) kD_wsX50) kD_wsJx4a65c0) kD_wsX10) kD_wsX20) kD_wsX40) kD_wsX30) kD_wsX00))) (goodIn_sub (fun _ h => List.mem_append_left _ (List.mem_append_left _ (List.mem_append_right _ h))) (by decide +kernel))
set_option maxRecDepth 20000 in
theorem gL_law_L_run : GoodIn wsL_law (va_wsS RL 97 yL_run wsL_run) := goodIn_app (goodIn_of _ (by decide +kernel)) ggL_law_L_run
set_option maxRecDepth 20000 in
theorem kC1 : GoodIn wsL_law0 wsX6_run_r1 := goodIn_r _ [179, 517, 330, 245, 180, 182, 183, 5, 184, 185, 186, 187, 188, 518, 519, 520, 521, 332, 54, 52, 53, 392, 393, 394] (by decide +kernel) (by decide +kernel)
set_option maxRecDepth 20000 in
theorem kC2 : GoodIn wsL_law0 wsX6_run_r2 := goodIn_r _ [395, 396, 391, 397, 398, 399, 400, 56, 401, 402, 403, 404, 55, 250, 251, 252, 253, 405, 406, 407, 408, 409, 410, 411] (by decide +kernel) (by decide +kernel)
set_option maxRecDepth 20000 in
theorem kC3 : GoodIn wsL_law0 wsX6_run_r3 := goodIn_r _ [412, 413, 414, 415, 416, 417, 522, 523, 524, 525, 298, 299, 300, 301, 526, 527, 528, 529, 530, 531, 532, 533, 534, 535] (by decide +kernel) (by decide +kernel)
set_option maxRecDepth 20000 in
theorem kC4 : GoodIn wsL_law0 wsX6_run_r4 := goodIn_r _ [536, 537, 538, 539, 540, 541, 542, 58, 543, 544, 545, 546, 547, 548, 549, 550, 551, 552, 553, 554, 555, 556, 557, 558] (by decide +kernel) (by decide +kernel)
set_option maxRecDepth 20000 in
theorem kC5 : GoodIn wsL_law0 wsX6_run_r5 := goodIn_r _ [57, 559, 560, 561, 562, 563, 564, 565, 566] (by decide +kernel) (by decide +kernel)
set_option maxRecDepth 20000 in
theorem kF1 : GoodIn wsL_law0 [Cond.code yX6_run cX6_run 5 (some .int)] := goodIn_r _ [516] (by decide +kernel) (by decide +kernel)
theorem ggL_law_X6_run : GoodIn wsL_law wsX6_run := kL0 (goodIn_app kF1 (goodIn_app (goodIn_app kC1 (goodIn_app kC2 (goodIn_app kC3 (goodIn_app kC4 kC5)))) kD_wsX60))
set_option maxRecDepth 20000 in
theorem gL_law_X6_run : GoodIn wsL_law (wsV RL 100 RX6 yX6_run wsX6_run) := goodIn_app (goodIn_of _ (by decide +kernel)) ggL_law_X6_run
set_option maxRecDepth 20000 in
theorem ggL_law_L_carrier : GoodIn wsL_law wsL_carrier := goodIn_ca (goodIn_r _ [569, 196, 570, 571, 572, 2, 573, 205, 206, 21, 449, 75, 76, 77, 19, 78, 79, 72, 73, 74, 211, 160, 161, 162, 163, 164, 165, 166, 167, 168, 169, 170, 171, 172, 173, 174, 35, 726, 727, 728, 729, 730, 731, 780, 781, 782, 783, 784, 785, 786, 787, 788, 754, 755, 756, 757, 758, 759, 760, 761, 762, 763, 751, 752, 753] (by decide +kernel) (by decide +kernel)) (goodIn_sub (fun _ h => List.mem_append_right _ h) (by decide +kernel))
set_option maxRecDepth 20000 in
theorem gL_law_L_carrier : GoodIn wsL_law (va_wsS RL 101 yL_carrier wsL_carrier) := goodIn_app (goodIn_of _ (by decide +kernel)) ggL_law_L_carrier
set_option maxRecDepth 20000 in
theorem ggL_law_X6_carrier : GoodIn wsL_law wsX6_carrier := goodIn_r _ [577, 179, 391, 182, 183, 5, 184, 401, 402, 403, 404, 55, 185, 186, 187, 188, 732, 733, 734, 735, 736, 737, 738, 739, 740, 741, 742, 743, 744, 745, 746, 747, 748] (by decide +kernel) (by decide +kernel)
set_option maxRecDepth 20000 in
theorem gL_law_X6_carrier : GoodIn wsL_law (wsV RL 103 RX6 yX6_carrier wsX6_carrier) := goodIn_app (goodIn_of _ (by decide +kernel)) ggL_law_X6_carrier
set_option maxRecDepth 20000 in
theorem ggL_law_L_count : GoodIn wsL_law wsL_count := goodIn_ca (goodIn_r _ [580, 196, 581, 582, 583, 2, 584, 205, 206, 22, 16, 20, 21, 23, 24, 75, 76, 77, 19, 78, 79, 347, 348, 349, 350, 585, 586, 587, 588, 280, 211, 160, 161, 162, 163, 164, 165, 166, 167, 168, 169, 170, 171, 172, 173, 174, 35, 450, 220, 451, 452, 232, 453, 454, 455, 456, 457, 458, 726, 727, 728, 729, 730, 731, 749, 750, 751, 752, 753, 764, 765, 766, 767, 768, 769, 770, 771, 772, 773, 774, 780, 781, 782, 783, 784, 785, 786, 787, 788] (by decide +kernel) (by decide +kernel)) (goodIn_sub (fun _ h => List.mem_append_right _ h) (by decide +kernel))
set_option maxRecDepth 20000 in
theorem gL_law_L_count : GoodIn wsL_law (va_wsS RL 104 yL_count wsL_count) := goodIn_app (goodIn_of _ (by decide +kernel)) ggL_law_L_count
set_option maxRecDepth 20000 in
theorem ggL_law_X6_count : GoodIn wsL_law wsX6_count := goodIn_r _ [592, 179, 182, 183, 5, 184, 593, 594, 595, 596, 330, 180, 245, 332, 391, 396, 517, 538, 526, 527, 528, 529, 56, 401, 402, 403, 404, 55, 530, 531, 532, 533, 185, 186, 187, 188, 732, 733, 734, 735, 736, 737, 738, 739, 740, 741, 742, 743, 744, 745, 746, 747, 748] (by decide +kernel) (by decide +kernel)
set_option maxRecDepth 20000 in
theorem gL_law_X6_count : GoodIn wsL_law (wsV RL 106 RX6 yX6_count wsX6_count) := goodIn_app (goodIn_of _ (by decide +kernel)) ggL_law_X6_count
set_option maxRecDepth 20000 in
theorem ggL_law_L_station : GoodIn wsL_law wsL_station := goodIn_ca (goodIn_r _ [599, 196, 600, 601, 602, 2, 603, 205, 206, 201, 202, 203, 204, 16, 207, 208, 15, 209, 210, 29, 86, 76, 77, 19, 78, 79, 211, 160, 161, 162, 163, 164, 165, 166, 167, 168, 169, 170, 171, 172, 173, 174, 35, 75, 754, 755, 756, 757, 758, 759, 760, 761, 762, 763, 726, 727, 728, 729, 730, 731, 749, 750, 751, 752, 753] (by decide +kernel) (by decide +kernel)) (goodIn_sub (fun _ h => List.mem_append_right _ h) (by decide +kernel))
set_option maxRecDepth 20000 in
theorem gL_law_L_station : GoodIn wsL_law (va_wsS RL 107 yL_station wsL_station) := goodIn_app (goodIn_of _ (by decide +kernel)) ggL_law_L_station
set_option maxRecDepth 20000 in
theorem ggL_law_X6_station : GoodIn wsL_law wsX6_station := goodIn_r _ [607, 179, 246, 247, 248, 5, 249, 180, 182, 183, 184, 608, 609, 610, 611, 250, 251, 252, 253, 52, 397, 398, 399, 400, 396, 56, 401, 402, 403, 404, 55, 185, 186, 187, 188, 732, 733, 734, 735, 736, 737, 738, 739, 740, 741, 742, 743, 744, 745, 746, 747, 748] (by decide +kernel) (by decide +kernel)
set_option maxRecDepth 20000 in
theorem gL_law_X6_station : GoodIn wsL_law (wsV RL 109 RX6 yX6_station wsX6_station) := goodIn_app (goodIn_of _ (by decide +kernel)) ggL_law_X6_station
set_option maxRecDepth 20000 in
theorem ggL_law_L_tube : GoodIn wsL_law wsL_tube := goodIn_ca (goodIn_r _ [614, 196, 615, 616, 617, 2, 618, 205, 206, 22, 276, 277, 278, 279, 16, 280, 281, 15, 282, 283, 30, 86, 76, 77, 19, 78, 79, 211, 160, 161, 162, 163, 164, 165, 166, 167, 168, 169, 170, 171, 172, 173, 174, 35, 75, 450, 220, 451, 452, 232, 453, 454, 455, 456, 457, 458, 764, 765, 766, 767, 768, 769, 770, 771, 772, 773, 774, 754, 755, 756, 757, 758, 759, 760, 761, 762, 763, 726, 727, 728, 729, 730, 731, 749, 750, 751, 752, 753, 780, 781, 782, 783, 784, 785, 786, 787, 788] (by decide +kernel) (by decide +kernel)) (goodIn_sub (fun _ h => List.mem_append_right _ h) (by decide +kernel))
set_option maxRecDepth 20000 in
theorem gL_law_L_tube : GoodIn wsL_law (va_wsS RL 110 yL_tube wsL_tube) := goodIn_app (goodIn_of _ (by decide +kernel)) ggL_law_L_tube
set_option maxRecDepth 20000 in
theorem ggL_law_X6_tube : GoodIn wsL_law wsX6_tube := goodIn_r _ [622, 179, 294, 295, 296, 5, 297, 245, 182, 183, 184, 623, 624, 625, 626, 298, 299, 300, 301, 53, 397, 398, 399, 400, 396, 56, 401, 402, 403, 404, 55, 526, 527, 528, 529, 530, 531, 532, 533, 330, 185, 186, 187, 188, 732, 733, 734, 735, 736, 737, 738, 739, 740, 741, 742, 743, 744, 745, 746, 747, 748] (by decide +kernel) (by decide +kernel)
set_option maxRecDepth 20000 in
theorem gL_law_X6_tube : GoodIn wsL_law (wsV RL 112 RX6 yX6_tube wsX6_tube) := goodIn_app (goodIn_of _ (by decide +kernel)) ggL_law_X6_tube
set_option maxRecDepth 20000 in
theorem ggL_law_L_there : GoodIn wsL_law wsL_there := goodIn_ca (goodIn_r _ [629, 196, 630, 631, 632, 2, 633, 205, 206, 449, 201, 202, 203, 204, 16, 207, 208, 15, 209, 210, 29, 86, 76, 77, 19, 78, 79, 211, 160, 161, 162, 163, 164, 165, 166, 167, 168, 169, 170, 171, 172, 173, 174, 35, 75, 72, 73, 74, 754, 755, 756, 757, 758, 759, 760, 761, 762, 763, 780, 781, 782, 783, 784, 785, 786, 787, 788, 726, 727, 728, 729, 730, 731, 749, 750, 751, 752, 753] (by decide +kernel) (by decide +kernel)) (goodIn_sub (fun _ h => List.mem_append_right _ h) (by decide +kernel))
set_option maxRecDepth 20000 in
theorem gL_law_L_there : GoodIn wsL_law (va_wsS RL 113 yL_there wsL_there) := goodIn_app (goodIn_of _ (by decide +kernel)) ggL_law_L_there
set_option maxRecDepth 20000 in
theorem ggL_law_X6_there : GoodIn wsL_law wsX6_there := goodIn_r _ [637, 179, 58, 246, 247, 248, 5, 249, 180, 182, 183, 184, 543, 544, 545, 546, 396, 56, 401, 402, 403, 404, 55, 547, 548, 549, 550, 185, 186, 187, 188, 732, 733, 734, 735, 736, 737, 738, 739, 740, 741, 742, 743, 744, 745, 746, 747, 748] (by decide +kernel) (by decide +kernel)
set_option maxRecDepth 20000 in
theorem gL_law_X6_there : GoodIn wsL_law (wsV RL 115 RX6 yX6_there wsX6_there) := goodIn_app (goodIn_of _ (by decide +kernel)) ggL_law_X6_there
set_option maxRecDepth 20000 in
theorem ggL_law_L_time : GoodIn wsL_law wsL_time := goodIn_ca (goodIn_r _ [640, 196, 641, 642, 643, 2, 644, 16, 645, 201, 202, 203, 204, 205, 206, 207, 208, 15, 209, 210, 29, 86, 76, 77, 19, 78, 79, 211, 160, 161, 162, 163, 164, 165, 166, 167, 168, 169, 170, 171, 172, 173, 174, 35, 646, 647, 648, 488, 489, 490, 491, 486, 30, 487, 492, 493, 136, 494, 495, 85, 496, 497, 90, 96, 159, 498, 499, 500, 501, 502, 503, 504, 726, 727, 728, 729, 730, 731, 749, 750, 751, 752, 753, 754, 755, 756, 757, 758, 759, 760, 761, 762, 763, 764, 765, 766, 767, 768, 769, 770, 771, 772, 773, 774] (by decide +kernel) (by decide +kernel)) (goodIn_sub (fun _ h => List.mem_append_right _ h) (by decide +kernel))
set_option maxRecDepth 20000 in
theorem gL_law_L_time : GoodIn wsL_law (va_wsS RL 116 yL_time wsL_time) := goodIn_app (goodIn_of _ (by decide +kernel)) ggL_law_L_time
set_option maxRecDepth 20000 in
theorem ggL_law_X6_time : GoodIn wsL_law wsX6_time := goodIn_r _ [652, 179, 57, 246, 247, 248, 5, 249, 180, 182, 183, 184, 185, 186, 187, 188, 555, 556, 557, 558, 245, 298, 299, 300, 301, 53, 559, 560, 561, 562, 563, 564, 565, 566, 250, 251, 252, 253, 52, 732, 733, 734, 735, 736, 737, 738, 739, 740, 741, 742, 743, 744, 745, 746, 747, 748] (by decide +kernel) (by decide +kernel)
set_option maxRecDepth 20000 in
theorem gL_law_X6_time : GoodIn wsL_law (wsV RL 118 RX6 yX6_time wsX6_time) := goodIn_app (goodIn_of _ (by decide +kernel)) ggL_law_X6_time
set_option maxRecDepth 20000 in
theorem ggL_law_L_next : GoodIn wsL_law wsL_next := goodIn_ca (goodIn_r _ [655, 196, 656, 657, 658, 2, 659, 16, 201, 202, 203, 204, 205, 206, 207, 208, 15, 209, 210, 29, 86, 76, 77, 19, 78, 79, 211, 160, 161, 162, 163, 164, 165, 166, 167, 168, 169, 170, 171, 172, 173, 174, 35, 483, 484, 485, 486, 487, 488, 489, 490, 491, 30, 492, 493, 136, 494, 495, 85, 496, 497, 90, 96, 159, 498, 499, 500, 501, 502, 503, 504, 726, 727, 728, 729, 730, 731, 749, 750, 751, 752, 753, 754, 755, 756, 757, 758, 759, 760, 761, 762, 763, 764, 765, 766, 767, 768, 769, 770, 771, 772, 773, 774] (by decide +kernel) (by decide +kernel)) (goodIn_sub (fun _ h => List.mem_append_right _ h) (by decide +kernel))
set_option maxRecDepth 20000 in
theorem gL_law_L_next : GoodIn wsL_law (va_wsS RL 119 yL_next wsL_next) := goodIn_app (goodIn_of _ (by decide +kernel)) ggL_law_L_next
set_option maxRecDepth 20000 in
theorem ggL_law_X6_next : GoodIn wsL_law wsX6_next := goodIn_r _ [663, 179, 246, 247, 248, 5, 249, 180, 182, 183, 184, 185, 186, 187, 188, 551, 552, 553, 554, 250, 251, 252, 253, 52, 555, 556, 557, 558, 57, 245, 298, 299, 300, 301, 53, 559, 560, 561, 562, 563, 564, 565, 566, 732, 733, 734, 735, 736, 737, 738, 739, 740, 741, 742, 743, 744, 745, 746, 747, 748] (by decide +kernel) (by decide +kernel)
set_option maxRecDepth 20000 in
theorem gL_law_X6_next : GoodIn wsL_law (wsV RL 121 RX6 yX6_next wsX6_next) := goodIn_app (goodIn_of _ (by decide +kernel)) ggL_law_X6_next
set_option maxRecDepth 20000 in
theorem ggL_law_L_parts : GoodIn wsL_law wsL_parts := goodIn_ca (goodIn_r _ [666, 196, 667, 668, 669, 2, 670, 16, 276, 277, 278, 279, 205, 206, 280, 281, 15, 282, 283, 30, 86, 76, 77, 19, 78, 79, 211, 160, 161, 162, 163, 164, 165, 166, 167, 168, 169, 170, 171, 172, 173, 174, 35, 671, 672, 673, 674, 675, 676, 677, 29, 158, 678, 679, 680, 681, 487, 159, 682, 683, 684, 685, 686, 687, 688, 726, 727, 728, 729, 730, 731, 749, 750, 751, 752, 753, 764, 765, 766, 767, 768, 769, 770, 771, 772, 773, 774, 754, 755, 756, 757, 758, 759, 760, 761, 762, 763] (by decide +kernel) (by decide +kernel)) (goodIn_sub (fun _ h => List.mem_append_right _ h) (by decide +kernel))
set_option maxRecDepth 20000 in
theorem gL_law_L_parts : GoodIn wsL_law (va_wsS RL 122 yL_parts wsL_parts) := goodIn_app (goodIn_of _ (by decide +kernel)) ggL_law_L_parts
set_option maxRecDepth 20000 in
theorem ggL_law_X6_parts : GoodIn wsL_law wsX6_parts := goodIn_r _ [692, 179, 53, 294, 295, 296, 5, 297, 245, 182, 183, 184, 185, 186, 187, 188, 693, 694, 695, 696, 180, 57, 555, 556, 557, 558, 298, 299, 300, 301, 559, 560, 561, 562, 563, 564, 565, 566, 250, 251, 252, 253, 52, 732, 733, 734, 735, 736, 737, 738, 739, 740, 741, 742, 743, 744, 745, 746, 747, 748] (by decide +kernel) (by decide +kernel)
set_option maxRecDepth 20000 in
theorem gL_law_X6_parts : GoodIn wsL_law (wsV RL 124 RX6 yX6_parts wsX6_parts) := goodIn_app (goodIn_of _ (by decide +kernel)) ggL_law_X6_parts
set_option maxRecDepth 20000 in
theorem ggL_law_X5_mean : GoodIn wsL_law wsX5_mean := goodIn_r _ [700, 23, 24, 726, 727, 728, 729, 730, 731] (by decide +kernel) (by decide +kernel)
set_option maxRecDepth 20000 in
theorem gL_law_X5_mean : GoodIn wsL_law (wsV RL 125 RX5 yX5_mean wsX5_mean) := goodIn_app (goodIn_of _ (by decide +kernel)) ggL_law_X5_mean
set_option maxRecDepth 20000 in
theorem ggL_law_X6_mean : GoodIn wsL_law wsX6_mean := goodIn_r _ [704, 179, 517, 538, 732, 733, 734, 735, 736, 737, 738, 739, 740, 741, 742, 743, 744, 745, 746, 747, 748] (by decide +kernel) (by decide +kernel)
set_option maxRecDepth 20000 in
theorem gL_law_X6_mean : GoodIn wsL_law (wsV RL 129 RX6 yX6_mean wsX6_mean) := goodIn_app (goodIn_of _ (by decide +kernel)) ggL_law_X6_mean
set_option maxRecDepth 20000 in
theorem ggL_law_X5_digest : GoodIn wsL_law wsX5_digest := goodIn_ca (goodIn_r _ [708, 709, 710, 16, 21, 711, 582, 583, 2, 584, 205, 206, 22, 20, 23, 24, 75, 76, 77, 19, 78, 79, 347, 348, 349, 350, 585, 586, 587, 588, 280, 211, 160, 161, 162, 163, 164, 165, 166, 167, 168, 169, 170, 171, 172, 173, 174, 35, 450, 220, 451, 452, 232, 453, 454, 455, 456, 457, 458, 712, 713, 714, 715, 716, 601, 602, 603, 201, 202, 203, 204, 207, 208, 15, 209, 210, 29, 86, 717, 631, 632, 633, 449, 72, 73, 74, 718, 616, 617, 618, 276, 277, 278, 279, 281, 282, 283, 30, 719, 571, 572, 573, 726, 727, 728, 729, 730, 731, 749, 750, 751, 752, 753, 764, 765, 766, 767, 768, 769, 770, 771, 772, 773, 774, 780, 781, 782, 783, 784, 785, 786, 787, 788, 754, 755, 756, 757, 758, 759, 760, 761, 762, 763] (by decide +kernel) (by decide +kernel)) (goodIn_sub (fun _ h => List.mem_append_right _ h) (by decide +kernel))
