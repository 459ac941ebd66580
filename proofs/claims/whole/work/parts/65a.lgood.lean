set_option maxRecDepth 20000 in
theorem ggL_law_X6_init : GoodIn wsL_law wsX6_init := goodIn_r _ [9, 10, 11, 12, 13, 14, 15, 16, 17, 18, 19, 20, 21, 22, 23, 24, 25, 26, 27, 28, 29, 30, 31, 32, 33, 34, 35, 36, 37, 38, 39, 40, 41, 42, 43, 44, 45, 46, 47, 48, 49, 50, 51, 52, 53, 54, 55, 56, 57, 58, 59, 60, 61, 62, 63, 64, 65, 66, 67, 68, 69, 70, 71, 72, 73, 74, 75, 76, 77, 78, 79, 80, 81, 82, 83, 84, 85, 86, 87, 88, 89, 90, 91, 92, 93, 94, 95, 96, 97, 98, 99, 100, 101, 102, 1031, 1032, 1033, 1034, 1035, 1036, 1037, 1038, 1039, 1040, 1041, 1042, 1043, 1044, 1045, 1046, 1047, 1048, 1065, 1066, 1067, 1068, 1069, 1070, 1071, 1072, 1073, 1074, 1075, 1076, 1077, 1078, 1079, 1080, 1081, 1082, 1083, 1084, 1085, 1086, 1087, 1088, 1089, 1090, 1091, 1092, 1093, 1094, 1095, 1096, 1097] (by decide +kernel) (by decide +kernel)
set_option maxRecDepth 20000 in
theorem gL_law_X6_init : GoodIn wsL_law (wsX6_init) := ggL_law_X6_init
set_option maxRecDepth 20000 in
theorem ggL_law_X7_init : GoodIn wsL_law wsX7_init := goodIn_r _ [105, 106, 11, 12, 107, 108, 109, 110, 111, 112, 26, 113, 114, 115, 116, 117, 118, 119, 120, 121, 122, 123, 124, 125, 126, 127, 128, 129, 130, 131, 132, 133, 1098, 1099, 1100, 1049, 1050, 1051, 1052, 1053, 1054, 1055, 1056, 1057, 1058, 1059, 1060, 1061, 1062, 1063, 1064] (by decide +kernel) (by decide +kernel)
set_option maxRecDepth 20000 in
theorem gL_law_X7_init : GoodIn wsL_law (wsX7_init) := ggL_law_X7_init
set_option maxRecDepth 20000 in
theorem ggL_law_L_farm : GoodIn wsL_law wsL_farm := goodIn_ca (goodIn_ca (goodIn_r _ [137, 138, 139, 140, 141, 2, 142, 143, 144, 145, 146, 28, 14, 147, 1031, 1032, 1033, 1034, 1035, 1036, 1037, 1038, 1039, 1040, 1041, 1042, 1043, 1044, 1045, 1046, 1047, 1048, 1073, 1074, 1075, 1076] (by decide +kernel) (by decide +kernel)) (goodIn_sub (fun _ h => List.mem_append_left _ (List.mem_append_left _ (List.mem_append_right _ h))) (by decide +kernel))) (goodIn_sub (fun _ h => List.mem_append_left _ (List.mem_append_right _ h)) (by decide +kernel))
set_option maxRecDepth 20000 in
theorem gL_law_L_farm : GoodIn wsL_law (va_wsS RL 103 yL_farm wsL_farm) := goodIn_app (goodIn_of _ (by decide +kernel)) ggL_law_L_farm
set_option maxRecDepth 20000 in
theorem ggL_law_X7_farm : GoodIn wsL_law wsX7_farm := goodIn_r _ [151, 152, 110, 26, 153, 154, 5, 155, 156, 157, 158, 159, 160, 161, 162, 109, 163, 164, 165, 166, 167, 168, 169, 170, 123, 171, 172, 173, 174, 175, 176, 177, 178, 179, 180, 181, 182, 122, 183, 184, 185, 186, 187, 188, 189, 190, 191, 192, 193, 194, 195, 196, 197, 198, 199, 200, 201, 202, 203, 204, 205, 206, 207, 208, 209, 210, 211, 212, 213, 214, 215, 216, 1049, 1050, 1051, 1052, 1053, 1054, 1055, 1056, 1057, 1058, 1059, 1060, 1061, 1062, 1063, 1064, 1098, 1099, 1100] (by decide +kernel) (by decide +kernel)
set_option maxRecDepth 20000 in
theorem gL_law_X7_farm : GoodIn wsL_law (wsV RL 108 RX7 yX7_farm wsX7_farm) := goodIn_app (goodIn_of _ (by decide +kernel)) ggL_law_X7_farm
set_option maxRecDepth 20000 in
theorem ggL_law_X7_thrown : GoodIn wsL_law wsX7_thrown := goodIn_r _ [220, 152, 1049, 1050, 1051, 1052, 1053, 1054, 1055, 1056, 1057, 1058, 1059, 1060, 1061, 1062, 1063, 1064] (by decide +kernel) (by decide +kernel)
set_option maxRecDepth 20000 in
theorem gL_law_X7_thrown : GoodIn wsL_law (wsV RL 109 RX7 yX7_thrown wsX7_thrown) := goodIn_app (goodIn_of _ (by decide +kernel)) ggL_law_X7_thrown
set_option maxRecDepth 20000 in
theorem ggL_law_L_label : GoodIn wsL_law wsL_label := goodIn_ca (goodIn_ca (goodIn_r _ [223, 224, 225, 226, 227, 2, 228, 143, 144, 229, 230, 231, 232, 233, 14, 234, 235, 236, 237, 238, 239, 28, 1073, 1074, 1075, 1076, 1031, 1032, 1033, 1034, 1035, 1036, 1037, 1038, 1039, 1040, 1041, 1042, 1043, 1044, 1045, 1046, 1047, 1048] (by decide +kernel) (by decide +kernel)) (goodIn_sub (fun _ h => List.mem_append_left _ (List.mem_append_left _ (List.mem_append_right _ h))) (by decide +kernel))) (goodIn_sub (fun _ h => List.mem_append_right _ h) (by decide +kernel))
set_option maxRecDepth 20000 in
theorem gL_law_L_label : GoodIn wsL_law (va_wsS RL 113 yL_label wsL_label) := goodIn_app (goodIn_of _ (by decide +kernel)) ggL_law_L_label
set_option maxRecDepth 20000 in
theorem ggL_law_X7_label : GoodIn wsL_law wsX7_label := goodIn_r _ [243, 152, 110, 244, 245, 246, 247, 5, 248, 160, 161, 162, 109, 163, 164, 153, 154, 155, 156, 157, 158, 159, 249, 250, 251, 252, 253, 254, 255, 256, 257, 258, 259, 260, 261, 262, 263, 264, 123, 1049, 1050, 1051, 1052, 1053, 1054, 1055, 1056, 1057, 1058, 1059, 1060, 1061, 1062, 1063, 1064, 1098, 1099, 1100] (by decide +kernel) (by decide +kernel)
set_option maxRecDepth 20000 in
theorem gL_law_X7_label : GoodIn wsL_law (wsV RL 116 RX7 yX7_label wsX7_label) := goodIn_app (goodIn_of _ (by decide +kernel)) ggL_law_X7_label
set_option maxRecDepth 20000 in
theorem ggL_law_L_price : GoodIn wsL_law wsL_price := goodIn_ca (goodIn_r _ [267, 138, 268, 269, 270, 2, 271, 143, 144, 34, 1031, 1032, 1033, 1034, 1035, 1036, 1037, 1038, 1039, 1040, 1041, 1042, 1043, 1044, 1045, 1046, 1047, 1048] (by decide +kernel) (by decide +kernel)) (goodIn_sub (fun _ h => List.mem_append_left _ (List.mem_append_left _ (List.mem_append_right _ h))) (by decide +kernel))
set_option maxRecDepth 20000 in
theorem gL_law_L_price : GoodIn wsL_law (va_wsS RL 117 yL_price wsL_price) := goodIn_app (goodIn_of _ (by decide +kernel)) ggL_law_L_price
set_option maxRecDepth 20000 in
theorem ggL_law_X7_price : GoodIn wsL_law wsX7_price := goodIn_r _ [275, 152, 118, 153, 154, 5, 155, 156, 157, 158, 159, 1049, 1050, 1051, 1052, 1053, 1054, 1055, 1056, 1057, 1058, 1059, 1060, 1061, 1062, 1063, 1064] (by decide +kernel) (by decide +kernel)
set_option maxRecDepth 20000 in
theorem gL_law_X7_price : GoodIn wsL_law (wsV RL 119 RX7 yX7_price wsX7_price) := goodIn_app (goodIn_of _ (by decide +kernel)) ggL_law_X7_price
set_option maxRecDepth 20000 in
theorem ggL_law_L_bring : GoodIn wsL_law wsL_bring := goodIn_ca (goodIn_ca (goodIn_ca (goodIn_r _ [278, 224, 279, 280, 281, 2, 282, 143, 144, 145, 146, 29, 16, 229, 32, 35, 283, 284, 34, 33, 230, 231, 232, 233, 14, 234, 235, 236, 237, 238, 239, 28, 285, 286, 287, 42, 288, 78, 79, 80, 83, 1031, 1032, 1033, 1034, 1035, 1036, 1037, 1038, 1039, 1040, 1041, 1042, 1043, 1044, 1045, 1046, 1047, 1048, 1073, 1074, 1075, 1076, 1077, 1078, 1079, 1080, 1081, 1082] (by decide +kernel) (by decide +kernel)) (goodIn_sub (fun _ h => List.mem_append_left _ (List.mem_append_left _ (List.mem_append_right _ h))) (by decide +kernel))) (goodIn_sub (fun _ h => List.mem_append_left _ (List.mem_append_right _ h)) (by decide +kernel))) (goodIn_sub (fun _ h => List.mem_append_right _ h) (by decide +kernel))
set_option maxRecDepth 20000 in
theorem gL_law_L_bring : GoodIn wsL_law (va_wsS RL 120 yL_bring wsL_bring) := goodIn_app (goodIn_of _ (by decide +kernel)) ggL_law_L_bring
set_option maxRecDepth 20000 in
theorem ggL_law_X7_bring : GoodIn wsL_law wsX7_bring := goodIn_r _ [292, 152, 111, 110, 244, 26, 293, 294, 118, 295, 245, 246, 247, 5, 248, 160, 161, 162, 109, 163, 164, 153, 154, 155, 156, 157, 158, 159, 249, 250, 251, 252, 253, 254, 255, 256, 257, 258, 259, 260, 261, 262, 263, 264, 123, 165, 166, 167, 168, 169, 170, 171, 172, 173, 174, 175, 176, 177, 178, 179, 180, 181, 182, 122, 183, 184, 185, 186, 187, 188, 189, 190, 191, 192, 193, 194, 195, 196, 197, 198, 199, 200, 201, 202, 203, 204, 205, 206, 207, 208, 209, 210, 211, 212, 213, 214, 215, 216, 1049, 1050, 1051, 1052, 1053, 1054, 1055, 1056, 1057, 1058, 1059, 1060, 1061, 1062, 1063, 1064, 1098, 1099, 1100] (by decide +kernel) (by decide +kernel)
set_option maxRecDepth 20000 in
theorem gL_law_X7_bring : GoodIn wsL_law (wsV RL 123 RX7 yX7_bring wsX7_bring) := goodIn_app (goodIn_of _ (by decide +kernel)) ggL_law_X7_bring
set_option maxRecDepth 20000 in
theorem ggL_law_L_pass : GoodIn wsL_law wsL_pass := goodIn_ca (goodIn_ca (goodIn_r _ [298, 138, 299, 300, 301, 2, 302, 143, 144, 145, 146, 32, 303, 304, 305, 306, 18, 30, 20, 307, 308, 309, 310, 29, 16, 37, 311, 312, 313, 314, 42, 315, 81, 82, 316, 317, 318, 44, 319, 88, 89, 90, 320, 321, 322, 52, 323, 66, 324, 325, 326, 327, 328, 329, 330, 331, 46, 332, 95, 97, 99, 333, 211, 185, 212, 100, 101, 334, 335, 336, 337, 338, 339, 184, 186, 340, 341, 342, 343, 96, 344, 345, 346, 347, 348, 31, 22, 349, 350, 1031, 1032, 1033, 1034, 1035, 1036, 1037, 1038, 1039, 1040, 1041, 1042, 1043, 1044, 1045, 1046, 1047, 1048, 1077, 1078, 1079, 1080, 1081, 1082, 1083, 1084, 1085, 1094, 1095, 1096, 1097, 1086, 1087, 1088, 1089, 1090, 1091, 1092, 1093, 1065, 1066, 1067, 1068, 1069, 1070, 1071, 1072] (by decide +kernel) (by decide +kernel)) (goodIn_sub (fun _ h => List.mem_append_left _ (List.mem_append_left _ (List.mem_append_right _ h))) (by decide +kernel))) (goodIn_sub (fun _ h => List.mem_append_left _ (List.mem_append_right _ h)) (by decide +kernel))
set_option maxRecDepth 20000 in
theorem gL_law_L_pass : GoodIn wsL_law (va_wsS RL 124 yL_pass wsL_pass) := goodIn_app (goodIn_of _ (by decide +kernel)) ggL_law_L_pass
set_option maxRecDepth 20000 in
theorem ggL_law_X7_pass_ : GoodIn wsL_law wsX7_pass_ := goodIn_r _ [354, 152, 293, 153, 154, 5, 155, 355, 356, 357, 156, 157, 158, 159, 358, 359, 360, 361, 111, 244, 362, 113, 114, 363, 211, 185, 212, 115, 364, 365, 366, 109, 367, 368, 369, 370, 371, 372, 373, 374, 375, 11, 12, 376, 377, 170, 378, 379, 380, 381, 382, 383, 384, 385, 386, 387, 388, 389, 390, 391, 392, 393, 394, 395, 396, 397, 398, 399, 184, 186, 400, 401, 402, 1049, 1050, 1051, 1052, 1053, 1054, 1055, 1056, 1057, 1058, 1059, 1060, 1061, 1062, 1063, 1064, 1101, 1102, 1103, 1104, 1098, 1099, 1100] (by decide +kernel) (by decide +kernel)
set_option maxRecDepth 20000 in
theorem gL_law_X7_pass_ : GoodIn wsL_law (wsV RL 126 RX7 yX7_pass_ wsX7_pass_) := goodIn_app (goodIn_of _ (by decide +kernel)) ggL_law_X7_pass_
set_option maxRecDepth 20000 in
theorem ggL_law_L_bed : GoodIn wsL_law wsL_bed := goodIn_ca (goodIn_ca (goodIn_r _ [405, 138, 406, 407, 408, 2, 409, 143, 144, 145, 146, 30, 20, 410, 1031, 1032, 1033, 1034, 1035, 1036, 1037, 1038, 1039, 1040, 1041, 1042, 1043, 1044, 1045, 1046, 1047, 1048, 1086, 1087, 1088, 1089, 1090, 1091, 1092, 1093] (by decide +kernel) (by decide +kernel)) (goodIn_sub (fun _ h => List.mem_append_left _ (List.mem_append_left _ (List.mem_append_right _ h))) (by decide +kernel))) (goodIn_sub (fun _ h => List.mem_append_left _ (List.mem_append_right _ h)) (by decide +kernel))
set_option maxRecDepth 20000 in
theorem gL_law_L_bed : GoodIn wsL_law (va_wsS RL 127 yL_bed wsL_bed) := goodIn_app (goodIn_of _ (by decide +kernel)) ggL_law_L_bed
set_option maxRecDepth 20000 in
theorem ggL_law_X7_bed : GoodIn wsL_law wsX7_bed := goodIn_r _ [414, 152, 114, 26, 153, 154, 5, 155, 156, 157, 158, 159, 160, 161, 162, 109, 163, 164, 165, 166, 167, 168, 169, 170, 123, 171, 172, 173, 174, 175, 176, 177, 178, 179, 180, 181, 182, 122, 183, 184, 185, 186, 187, 188, 189, 190, 191, 192, 193, 194, 195, 196, 197, 198, 199, 200, 201, 202, 203, 204, 205, 206, 207, 208, 209, 210, 211, 212, 213, 214, 215, 216, 1049, 1050, 1051, 1052, 1053, 1054, 1055, 1056, 1057, 1058, 1059, 1060, 1061, 1062, 1063, 1064, 1098, 1099, 1100] (by decide +kernel) (by decide +kernel)
set_option maxRecDepth 20000 in
theorem gL_law_X7_bed : GoodIn wsL_law (wsV RL 129 RX7 yX7_bed wsX7_bed) := goodIn_app (goodIn_of _ (by decide +kernel)) ggL_law_X7_bed
