
theorem mem_places {ws big : List Cond} (ps : List Nat) (hp : ws = ps.filterMap (fun i => big[i]?)) : ∀ w ∈ ws, w ∈ big := fun w h => by
 rw [hp] at h
 obtain ⟨i, -, hi⟩ := List.mem_filterMap.mp h
 exact List.mem_of_getElem? hi
theorem mem_cut {α : Type} {l : List α} {P : α → Prop} (n : Nat) (h1 : ∀ w ∈ l.take n, P w) (h2 : ∀ w ∈ l.drop n, P w) : ∀ w ∈ l, P w := fun w h => by
  rw [← List.take_append_drop n l] at h
  exact (List.mem_append.mp h).elim (h1 w) (h2 w)
def lawD0 : List Cond := wsL_law0
set_option maxRecDepth 20000 in
theorem lawI0 : ∀ w ∈ lawD0.take 80, w ∈ lw_tbl := fun w h => (mem_places [72, 73, 48, 926, 927, 55, 1410, 74, 75, 76, 77, 78, 79, 80, 279, 82, 280, 84, 281, 86, 282, 88, 283, 90, 49, 284, 124, 285, 286, 287, 288, 289, 290, 291, 292, 293, 294, 295, 296, 158, 51, 181, 52, 214, 53, 234, 54, 92, 93, 94, 95, 96, 50, 125, 127, 129, 131, 133, 135, 137, 139, 98, 99, 100, 101, 105, 107, 112, 160, 161, 162, 163, 166, 168, 170, 183, 184, 185, 186, 189] (by decide +kernel) w h)
def lawD1 : List Cond := lawD0.drop 80
set_option maxRecDepth 20000 in
theorem lawI1 : ∀ w ∈ lawD1.take 80, w ∈ lw_tbl := fun w h => (mem_places [191, 194, 196, 198, 216, 217, 218, 219, 221, 223, 225, 236, 237, 238, 239, 241, 244, 246, 248, 251, 254, 256, 259, 928, 929, 930, 931, 932, 933, 58, 964, 965, 961, 966, 967, 968, 969, 970, 973, 934, 935, 936, 944, 946, 937, 938, 57, 939, 950, 940, 941, 56, 942, 943, 633, 634, 47, 635, 636, 638, 639, 640, 641, 427, 62, 643, 63, 164, 1016, 1017, 1018, 1019, 963, 1020, 1021, 1022, 1023, 1025, 23, 1026] (by decide +kernel) w h)
def lawD2 : List Cond := lawD1.drop 80
set_option maxRecDepth 20000 in
theorem lawI2 : ∀ w ∈ lawD2.take 80, w ∈ lw_tbl := fun w h => (mem_places [1027, 1028, 1029, 1030, 949, 1031, 1032, 1033, 1034, 953, 952, 1035, 1037, 24, 1038, 1039, 1041, 25, 1042, 1043, 1045, 26, 1046, 1085, 359, 65, 360, 1086, 1047, 1048, 64, 1049, 1050, 1051, 1052, 1053, 1054, 1055, 1056, 66, 1057, 1058, 1428, 1059, 1074, 1075, 1076, 1077, 1078, 1080, 1081, 722, 723, 1082, 1084, 1083, 67, 1012, 1013, 1014, 1015, 659, 660, 661, 662, 663, 664, 665, 666, 167, 503, 505, 9, 506, 507, 509, 10, 510, 511, 68] (by decide +kernel) w h)
def lawD3 : List Cond := lawD2.drop 80
set_option maxRecDepth 20000 in
theorem lawI3 : ∀ w ∈ lawD3.take 80, w ∈ lw_tbl := fun w h => (mem_places [1087, 1088, 1089, 1090, 1109, 1091, 1093, 27, 1094, 1095, 1096, 1097, 1098, 1099, 1100, 69, 1101, 1102, 1103, 70, 1104, 1105, 1106, 1107, 1108, 668, 669, 670, 671, 672, 673, 674, 1110, 1111, 1112, 1113, 676, 677, 678, 679, 680, 681, 682, 171, 169, 685, 686, 687, 688, 1114, 1115, 1116, 1117, 971, 974, 972, 689, 690, 691, 692, 693, 694, 695, 698, 700, 20, 701, 702, 704, 21, 705, 190, 706, 707, 708, 709, 710, 711, 712, 713] (by decide +kernel) w h)
def lawD4 : List Cond := lawD3.drop 80
set_option maxRecDepth 20000 in
theorem lawI4 : ∀ w ∈ lawD4.take 80, w ∈ lw_tbl := fun w h => (mem_places [714, 572, 573, 574, 715, 576, 577, 578, 108, 716, 717, 718, 719, 721, 720, 724, 598, 599, 600, 605, 601, 602, 603, 604, 110, 725, 727, 22, 728, 130, 140, 1118, 1119, 1120, 1121, 1122, 1123, 1124, 1125, 1127, 28, 1128, 976, 1178, 1129, 1130, 1131, 1132, 1133, 1134, 71, 1135, 1136, 1137, 1142, 1138, 1140, 951, 1141, 1153, 1157, 1159, 1161, 1139, 1163, 1166, 1168, 1170, 947, 1171, 1172, 1173, 1174, 1175, 1176, 1177, 1179, 1180, 1181, 1185] (by decide +kernel) w h)
def lawD5 : List Cond := lawD4.drop 80
set_option maxRecDepth 20000 in
theorem lawI5 : ∀ w ∈ lawD5.take 80, w ∈ lw_tbl := fun w h => (mem_places [1182, 1183, 1184, 729, 730, 731, 732, 733, 734, 735, 245, 1186, 1187, 1188, 1189, 738, 739, 740, 741, 742, 743, 744, 195, 222, 111, 540, 542, 13, 543, 554, 556, 15, 557, 745, 746, 747, 748, 750, 751, 752, 753, 192, 187, 199, 386, 387, 1190, 1191, 1192, 1193, 1194, 1196, 29, 1197, 1198, 1199, 1200, 1201, 1202, 1203, 1204, 1205, 1206, 1207, 1208, 1209, 754, 755, 756, 757, 758, 759, 760, 226, 243, 587, 589, 17, 590, 571] (by decide +kernel) w h)
def lawD6 : List Cond := lawD5.drop 80
set_option maxRecDepth 20000 in
theorem lawI6 : ∀ w ∈ lawD6.take 80, w ∈ lw_tbl := fun w h => (mem_places [761, 762, 763, 764, 766, 767, 768, 769, 770, 382, 383, 384, 771, 772, 773, 774, 775, 378, 379, 380, 1210, 1211, 1212, 1213, 977, 1214, 1216, 30, 1217, 1218, 1219, 1220, 1221, 1222, 1223, 1224, 1225, 1226, 776, 777, 778, 779, 780, 781, 782, 1227, 1228, 1229, 1230, 784, 785, 786, 787, 788, 789, 790, 255, 1231, 1232, 1233, 1234, 792, 793, 794, 795, 796, 797, 798, 247, 1235, 1236, 1237, 1238, 799, 800, 801, 802, 803, 804, 805] (by decide +kernel) w h)
def lawD7 : List Cond := lawD6.drop 80
set_option maxRecDepth 20000 in
theorem lawI7 : ∀ w ∈ lawD7.take 80, w ∈ lw_tbl := fun w h => (mem_places [126, 806, 807, 808, 809, 103, 810, 811, 812, 813, 815, 816, 817, 818, 102, 242, 106, 109, 113, 249, 260, 257, 252, 819, 820, 821, 822, 823, 824, 825, 826, 1239, 1240, 1241, 1242, 1243, 1244, 1245, 1246, 1248, 31, 1249, 827, 828, 829, 830, 831, 832, 833, 834, 835, 836, 1250, 1251, 1252, 1253, 1254, 1255, 1256, 839, 840, 841, 842, 843, 844, 845, 128, 614, 616, 19, 617, 338, 339, 340, 341, 358, 342, 343, 344, 345] (by decide +kernel) w h)
def lawD8 : List Cond := lawD7.drop 80
set_option maxRecDepth 20000 in
theorem lawI8 : ∀ w ∈ lawD8.take 80, w ∈ lw_tbl := fun w h => (mem_places [165, 346, 347, 348, 349, 350, 351, 352, 353, 354, 355, 356, 357, 1257, 1258, 1259, 1260, 1261, 1263, 32, 1264, 1265, 1266, 1267, 1268, 1270, 33, 1271, 1272, 1273, 1274, 847, 848, 849, 850, 851, 852, 853, 365, 366, 367, 368, 388, 389, 390, 391, 381, 856, 857, 858, 859, 860, 1275, 1276, 1277, 1278, 1279, 1280, 1281, 1282, 1283, 1284, 1285, 1286, 1287, 1288, 1289, 1291, 1292, 1293, 1294, 861, 862, 863, 864, 865, 866, 867, 868, 869] (by decide +kernel) w h)
def lawD9 : List Cond := lawD8.drop 80
set_option maxRecDepth 20000 in
theorem lawI9 : ∀ w ∈ lawD9.take 80, w ∈ lw_tbl := fun w h => (mem_places [870, 619, 620, 621, 622, 873, 874, 875, 876, 877, 878, 560, 561, 562, 879, 880, 881, 882, 1295, 1296, 1297, 1298, 975, 1299, 1301, 34, 1302, 1303, 1305, 35, 1306, 1307, 1309, 36, 1310, 1311, 1313, 37, 1314, 1315, 1316, 883, 884, 885, 886, 500, 501, 502, 527, 529, 11, 530, 104, 1317, 1318, 1319, 1320, 1321, 1323, 38, 1324, 887, 888, 889, 890, 537, 538, 539, 188, 193, 197, 200, 1325, 1326, 1327, 1328, 891, 892, 893, 894] (by decide +kernel) w h)
def lawD10 : List Cond := lawD9.drop 80
set_option maxRecDepth 20000 in
theorem lawI10 : ∀ w ∈ lawD10.take 80, w ∈ lw_tbl := fun w h => (mem_places [551, 552, 553, 114, 224, 559, 1329, 1330, 1331, 1332, 1333, 1335, 39, 1336, 895, 896, 897, 898, 584, 585, 586, 250, 253, 258, 261, 1337, 1338, 1339, 1340, 1341, 1343, 40, 1344, 899, 900, 901, 902, 611, 612, 613, 132, 134, 136, 138, 623, 624, 625, 626, 1345, 1346, 1347, 1348, 1349, 1351, 41, 1352, 1353, 1354, 1355, 903, 904, 905, 906, 629, 630, 631, 1356, 1357, 1358, 1359, 907, 908, 909, 910, 400, 401, 402, 403, 405, 1] (by decide +kernel) w h)
def lawD11 : List Cond := lawD10.drop 80
set_option maxRecDepth 20000 in
theorem lawI11 : ∀ w ∈ lawD11.take 80, w ∈ lw_tbl := fun w h => (mem_places [406, 407, 409, 2, 410, 411, 413, 3, 414, 415, 417, 4, 418, 419, 421, 5, 422, 423, 425, 6, 426, 1360, 1361, 1362, 1363, 1364, 1366, 42, 1367, 334, 335, 336, 337, 1368, 1369, 1370, 1371, 911, 912, 913, 914, 564, 565, 566, 567, 568, 569, 575, 1372, 1373, 1374, 1375, 1376, 1378, 43, 1379, 915, 916, 917, 918, 594, 595, 596, 597, 1380, 1381, 1382, 1383, 1384, 1386, 44, 1387, 361, 362, 363, 364, 369, 371, 0, 372] (by decide +kernel) w h)
def lawD12 : List Cond := lawD11.drop 80
set_option maxRecDepth 20000 in
theorem lawI12 : ∀ w ∈ lawD12.take 80, w ∈ lw_tbl := fun w h => (mem_places [373, 374, 375, 376, 377, 1388, 1389, 1390, 1391, 1392, 1394, 45, 1395, 919, 920, 921, 922, 923, 924, 925, 1396, 1397, 1398, 1399, 393, 394, 395, 396, 397, 398, 399, 495, 497, 8, 498, 499, 532, 534, 12, 535, 536, 546, 548, 14, 549, 550, 563, 579, 581, 16, 582, 583, 593, 606, 608, 18, 609, 610, 628, 632, 1400, 1401, 1402, 1403, 1404, 978, 1405, 1407, 46, 1408, 1409, 297, 299, 301, 303, 305, 307, 309, 311, 313] (by decide +kernel) w h)
def lawD13 : List Cond := lawD12.drop 80
set_option maxRecDepth 20000 in
theorem lawI13 : ∀ w ∈ lawD13, w ∈ lw_tbl := fun w h => (mem_places [315, 317, 319, 321, 323, 325, 327, 329, 331, 979, 981, 983, 985, 987, 989, 991, 993, 995, 997, 999, 1001, 1003, 1005, 1007, 1009, 141, 143, 145, 147, 149, 151, 153, 155, 172, 174, 176, 178, 201, 203, 205, 207, 209, 211, 227, 229, 231, 262, 264, 266, 268, 270, 272, 274, 276, 115, 117, 119, 121, 958, 954, 956, 1143, 1145, 1147, 1149] (by decide +kernel) w h)
theorem wsL_law_in0 : ∀ w ∈ wsL_law0, w ∈ lw_tbl := show ∀ w ∈ lawD0, w ∈ lw_tbl from (mem_cut 80 lawI0 (mem_cut 80 lawI1 (mem_cut 80 lawI2 (mem_cut 80 lawI3 (mem_cut 80 lawI4 (mem_cut 80 lawI5 (mem_cut 80 lawI6 (mem_cut 80 lawI7 (mem_cut 80 lawI8 (mem_cut 80 lawI9 (mem_cut 80 lawI10 (mem_cut 80 lawI11 (mem_cut 80 lawI12 lawI13)))))))))))))
theorem wsL_law_x0 : ∀ w ∈ (vx_atS RX6 90 "java/lang/IllegalArgumentException" ["java/lang/RuntimeException", "java/lang/Exception"]).filter goodWord, w ∈ lw_tbl := by decide +kernel
theorem wsL_law_x1 : ∀ w ∈ (vx_atS RX6 97 "java/lang/IllegalStateException" ["java/lang/RuntimeException", "java/lang/Exception"]).filter goodWord, w ∈ lw_tbl := by decide +kernel
theorem wsL_law_x2 : ∀ w ∈ (vx_atS RX6 416 "java/lang/IndexOutOfBoundsException" ["java/lang/RuntimeException", "java/lang/Exception"]).filter goodWord, w ∈ lw_tbl := by decide +kernel
theorem wsL_law_in : ∀ w ∈ wsL_law, w ∈ lw_tbl := fun w h => (List.mem_append.mp h).elim (fun h => (List.mem_append.mp h).elim (fun h => (List.mem_append.mp h).elim (fun h => wsL_law_in0 w h) (fun h => wsL_law_x0 w h)) (fun h => wsL_law_x1 w h)) (fun h => wsL_law_x2 w h)
theorem inX0 : ∀ w ∈ wsX00, w ∈ lw_tbl := fun w h => wsL_law_in w (inlX0 w h)
theorem inX1 : ∀ w ∈ wsX10, w ∈ lw_tbl := fun w h => wsL_law_in w (inlX1 w h)
theorem inX2 : ∀ w ∈ wsX20, w ∈ lw_tbl := fun w h => wsL_law_in w (inlX2 w h)
theorem inX3 : ∀ w ∈ wsX30, w ∈ lw_tbl := fun w h => wsL_law_in w (inlX3 w h)
theorem inX4 : ∀ w ∈ wsX40, w ∈ lw_tbl := fun w h => wsL_law_in w (inlX4 w h)
theorem inX5 : ∀ w ∈ wsX50, w ∈ lw_tbl := fun w h => wsL_law_in w (inlX5 w h)
theorem inX6 : ∀ w ∈ wsX60, w ∈ lw_tbl := fun w h => wsL_law_in w (inlX6 w h)
theorem inX7 : ∀ w ∈ wsX70, w ∈ lw_tbl := fun w h => wsL_law_in w (inlX7 w h)
theorem inJx145de : ∀ w ∈ wsJx145de0, w ∈ lw_tbl := by decide +kernel
theorem inJx8e188 : ∀ w ∈ wsJx8e1880, w ∈ lw_tbl := by decide +kernel
theorem inJxab1ab : ∀ w ∈ wsJxab1ab0, w ∈ lw_tbl := by decide +kernel
theorem inJ9 : ∀ w ∈ wsJ90, w ∈ lw_tbl := by decide +kernel
theorem inJ0 : ∀ w ∈ wsJ00, w ∈ lw_tbl := by decide +kernel
theorem inJ10 : ∀ w ∈ wsJ100, w ∈ lw_tbl := by decide +kernel
theorem inJxa1e45 : ∀ w ∈ wsJxa1e450, w ∈ lw_tbl := by decide +kernel
theorem inJxc12de : ∀ w ∈ wsJxc12de0, w ∈ lw_tbl := by decide +kernel
theorem inJx35411 : ∀ w ∈ wsJx354110, w ∈ lw_tbl := fun w h => wsL_law_in w (inlJx35411 w h)
theorem inJx4a65c : ∀ w ∈ wsJx4a65c0, w ∈ lw_tbl := fun w h => wsL_law_in w (inlJx4a65c w h)
theorem inJ7 : ∀ w ∈ wsJ70, w ∈ lw_tbl := by decide +kernel
theorem inJx5ef63 : ∀ w ∈ wsJx5ef630, w ∈ lw_tbl := by decide +kernel
theorem inJx4d0d8 : ∀ w ∈ wsJx4d0d80, w ∈ lw_tbl := by decide +kernel
theorem inJxbd725 : ∀ w ∈ wsJxbd7250, w ∈ lw_tbl := by decide +kernel
theorem inJ15 : ∀ w ∈ wsJ150, w ∈ lw_tbl := by decide +kernel
theorem inJxf0a74 : ∀ w ∈ wsJxf0a740, w ∈ lw_tbl := by decide +kernel
theorem inJxa66e6 : ∀ w ∈ wsJxa66e60, w ∈ lw_tbl := by decide +kernel
theorem inJ8 : ∀ w ∈ wsJ80, w ∈ lw_tbl := by decide +kernel
theorem inJ3 : ∀ w ∈ wsJ30, w ∈ lw_tbl := by decide +kernel
