set_option maxRecDepth 20000 in
theorem ggL_law_L_pulp : GoodIn wsL_law wsL_pulp := goodIn_ca (goodIn_ca (goodIn_r _ [417, 224, 418, 419, 420, 2, 421, 145, 146, 311, 422, 423, 37, 424, 425, 426, 427, 428, 238, 239, 29, 16, 429, 430, 431, 432, 18, 433, 434, 435, 44, 436, 88, 89, 328, 320, 321, 322, 52, 323, 66, 437, 438, 439, 440, 67, 441, 64, 442, 443, 65, 444, 445, 1077, 1078, 1079, 1080, 1081, 1082, 1083, 1084, 1085, 1031, 1032, 1033, 1034, 1035, 1036, 1037, 1038, 1039, 1040, 1041, 1042, 1043, 1044, 1045, 1046, 1047, 1048, 1094, 1095, 1096, 1097] (by decide +kernel) (by decide +kernel)) (goodIn_sub (fun _ h => List.mem_append_left _ (List.mem_append_right _ h)) (by decide +kernel))) (goodIn_sub (fun _ h => List.mem_append_right _ h) (by decide +kernel))
set_option maxRecDepth 20000 in
theorem gL_law_L_pulp : GoodIn wsL_law (va_wsS RL 130 yL_pulp wsL_pulp) := goodIn_app (goodIn_of _ (by decide +kernel)) ggL_law_L_pulp
set_option maxRecDepth 20000 in
theorem ggL_law_X7_pulp : GoodIn wsL_law wsX7_pulp := goodIn_r _ [449, 152, 111, 244, 113, 362, 450, 451, 452, 5, 453, 160, 161, 162, 109, 163, 164, 153, 154, 155, 454, 455, 456, 156, 157, 158, 159, 249, 250, 251, 252, 253, 254, 255, 256, 257, 258, 259, 260, 261, 262, 263, 264, 123, 457, 458, 459, 26, 460, 461, 462, 463, 464, 465, 1049, 1050, 1051, 1052, 1053, 1054, 1055, 1056, 1057, 1058, 1059, 1060, 1061, 1062, 1063, 1064, 1098, 1099, 1100] (by decide +kernel) (by decide +kernel)
set_option maxRecDepth 20000 in
theorem gL_law_X7_pulp : GoodIn wsL_law (wsV RL 132 RX7 yX7_pulp wsX7_pulp) := goodIn_app (goodIn_of _ (by decide +kernel)) ggL_law_X7_pulp
set_option maxRecDepth 20000 in
theorem ggL_law_L_wash : GoodIn wsL_law wsL_wash := goodIn_ca (goodIn_ca (goodIn_r _ [468, 224, 469, 470, 471, 2, 472, 145, 146, 423, 424, 473, 474, 38, 429, 430, 431, 432, 238, 239, 18, 475, 476, 477, 478, 30, 20, 479, 321, 322, 52, 323, 66, 480, 481, 482, 46, 483, 95, 96, 334, 484, 485, 486, 487, 98, 99, 102, 100, 101, 488, 489, 490, 491, 67, 64, 65, 444, 445, 492, 493, 494, 44, 495, 88, 89, 90, 496, 497, 498, 499, 1083, 1084, 1085, 1094, 1095, 1096, 1097, 1086, 1087, 1088, 1089, 1090, 1091, 1092, 1093, 1031, 1032, 1033, 1034, 1035, 1036, 1037, 1038, 1039, 1040, 1041, 1042, 1043, 1044, 1045, 1046, 1047, 1048] (by decide +kernel) (by decide +kernel)) (goodIn_sub (fun _ h => List.mem_append_left _ (List.mem_append_right _ h)) (by decide +kernel))) (goodIn_sub (fun _ h => List.mem_append_right _ h) (by decide +kernel))
set_option maxRecDepth 20000 in
theorem gL_law_L_wash : GoodIn wsL_law (va_wsS RL 133 yL_wash wsL_wash) := goodIn_app (goodIn_of _ (by decide +kernel)) ggL_law_L_wash
set_option maxRecDepth 20000 in
theorem ggL_law_X7_wash : GoodIn wsL_law wsX7_wash := goodIn_r _ [503, 152, 113, 114, 244, 504, 454, 455, 5, 456, 153, 154, 155, 505, 506, 507, 508, 160, 161, 162, 109, 163, 164, 156, 157, 158, 159, 249, 250, 251, 252, 253, 254, 255, 256, 257, 258, 259, 260, 261, 262, 263, 264, 123, 509, 510, 511, 512, 513, 514, 460, 461, 462, 463, 464, 465, 515, 516, 517, 1049, 1050, 1051, 1052, 1053, 1054, 1055, 1056, 1057, 1058, 1059, 1060, 1061, 1062, 1063, 1064, 1098, 1099, 1100] (by decide +kernel) (by decide +kernel)
set_option maxRecDepth 20000 in
theorem gL_law_X7_wash : GoodIn wsL_law (wsV RL 136 RX7 yX7_wash wsX7_wash) := goodIn_app (goodIn_of _ (by decide +kernel)) ggL_law_X7_wash
set_option maxRecDepth 20000 in
theorem ggL_law_L_whole : GoodIn wsL_law wsL_whole := goodIn_ca (goodIn_ca (goodIn_r _ [520, 224, 521, 522, 523, 2, 524, 145, 146, 422, 311, 474, 424, 425, 426, 427, 428, 238, 239, 29, 16, 475, 476, 477, 478, 30, 20, 480, 481, 482, 46, 483, 95, 96, 334, 321, 322, 52, 323, 66, 484, 485, 486, 487, 98, 99, 102, 100, 101, 437, 438, 439, 440, 67, 441, 64, 442, 443, 65, 444, 445, 1077, 1078, 1079, 1080, 1081, 1082, 1086, 1087, 1088, 1089, 1090, 1091, 1092, 1093, 1094, 1095, 1096, 1097, 1031, 1032, 1033, 1034, 1035, 1036, 1037, 1038, 1039, 1040, 1041, 1042, 1043, 1044, 1045, 1046, 1047, 1048] (by decide +kernel) (by decide +kernel)) (goodIn_sub (fun _ h => List.mem_append_left _ (List.mem_append_right _ h)) (by decide +kernel))) (goodIn_sub (fun _ h => List.mem_append_right _ h) (by decide +kernel))
set_option maxRecDepth 20000 in
theorem gL_law_L_whole : GoodIn wsL_law (va_wsS RL 137 yL_whole wsL_whole) := goodIn_app (goodIn_of _ (by decide +kernel)) ggL_law_L_whole
set_option maxRecDepth 20000 in
theorem ggL_law_X7_whole : GoodIn wsL_law wsX7_whole := goodIn_r _ [528, 152, 111, 244, 114, 450, 451, 452, 5, 453, 160, 161, 162, 109, 163, 164, 153, 154, 155, 505, 506, 507, 508, 156, 157, 158, 159, 249, 250, 251, 252, 253, 254, 255, 256, 257, 258, 259, 260, 261, 262, 263, 264, 123, 509, 510, 511, 457, 458, 459, 26, 512, 513, 514, 460, 461, 462, 463, 464, 465, 1049, 1050, 1051, 1052, 1053, 1054, 1055, 1056, 1057, 1058, 1059, 1060, 1061, 1062, 1063, 1064, 1098, 1099, 1100] (by decide +kernel) (by decide +kernel)
set_option maxRecDepth 20000 in
theorem gL_law_X7_whole : GoodIn wsL_law (wsV RL 139 RX7 yX7_whole wsX7_whole) := goodIn_app (goodIn_of _ (by decide +kernel)) ggL_law_X7_whole
set_option maxRecDepth 20000 in
theorem ggL_law_L_turn : GoodIn wsL_law wsL_turn := goodIn_ca (goodIn_ca (goodIn_r _ [531, 224, 532, 533, 534, 2, 535, 145, 146, 474, 536, 475, 476, 477, 478, 238, 239, 30, 20, 479, 321, 322, 52, 323, 66, 1086, 1087, 1088, 1089, 1090, 1091, 1092, 1093, 1031, 1032, 1033, 1034, 1035, 1036, 1037, 1038, 1039, 1040, 1041, 1042, 1043, 1044, 1045, 1046, 1047, 1048, 1094, 1095, 1096, 1097] (by decide +kernel) (by decide +kernel)) (goodIn_sub (fun _ h => List.mem_append_left _ (List.mem_append_right _ h)) (by decide +kernel))) (goodIn_sub (fun _ h => List.mem_append_right _ h) (by decide +kernel))
set_option maxRecDepth 20000 in
theorem gL_law_L_turn : GoodIn wsL_law (va_wsS RL 140 yL_turn wsL_turn) := goodIn_app (goodIn_of _ (by decide +kernel)) ggL_law_L_turn
set_option maxRecDepth 20000 in
theorem ggL_law_X7_turn : GoodIn wsL_law wsX7_turn := goodIn_r _ [540, 152, 114, 244, 505, 506, 507, 5, 508, 160, 161, 162, 109, 163, 164, 153, 154, 155, 156, 157, 158, 159, 249, 250, 251, 252, 253, 254, 255, 256, 257, 258, 259, 260, 261, 262, 263, 264, 123, 1049, 1050, 1051, 1052, 1053, 1054, 1055, 1056, 1057, 1058, 1059, 1060, 1061, 1062, 1063, 1064, 1098, 1099, 1100] (by decide +kernel) (by decide +kernel)
set_option maxRecDepth 20000 in
theorem gL_law_X7_turn : GoodIn wsL_law (wsV RL 142 RX7 yX7_turn wsX7_turn) := goodIn_app (goodIn_of _ (by decide +kernel)) ggL_law_X7_turn
set_option maxRecDepth 20000 in
theorem ggL_law_L_cover : GoodIn wsL_law wsL_cover := goodIn_ca (goodIn_r _ [543, 224, 544, 545, 546, 2, 547, 548, 475, 476, 477, 478, 238, 239, 30, 20, 1086, 1087, 1088, 1089, 1090, 1091, 1092, 1093, 1031, 1032, 1033, 1034, 1035, 1036, 1037, 1038, 1039, 1040, 1041, 1042, 1043, 1044, 1045, 1046, 1047, 1048] (by decide +kernel) (by decide +kernel)) (goodIn_sub (fun _ h => List.mem_append_right _ h) (by decide +kernel))
set_option maxRecDepth 20000 in
theorem gL_law_L_cover : GoodIn wsL_law (va_wsS RL 143 yL_cover wsL_cover) := goodIn_app (goodIn_of _ (by decide +kernel)) ggL_law_L_cover
set_option maxRecDepth 20000 in
theorem ggL_law_X7_cover : GoodIn wsL_law wsX7_cover := goodIn_r _ [552, 152, 114, 244, 505, 506, 507, 5, 508, 160, 161, 162, 109, 163, 164, 153, 154, 155, 249, 250, 251, 252, 253, 254, 255, 256, 257, 258, 259, 260, 261, 262, 263, 264, 123, 1049, 1050, 1051, 1052, 1053, 1054, 1055, 1056, 1057, 1058, 1059, 1060, 1061, 1062, 1063, 1064, 1098, 1099, 1100] (by decide +kernel) (by decide +kernel)
set_option maxRecDepth 20000 in
theorem gL_law_X7_cover : GoodIn wsL_law (wsV RL 146 RX7 yX7_cover wsX7_cover) := goodIn_app (goodIn_of _ (by decide +kernel)) ggL_law_X7_cover
set_option maxRecDepth 20000 in
theorem ggL_law_L_store : GoodIn wsL_law wsL_store := goodIn_ca (goodIn_ca (goodIn_r _ [555, 224, 556, 557, 558, 2, 559, 145, 146, 31, 22, 37, 474, 424, 560, 475, 476, 477, 478, 238, 239, 30, 20, 561, 562, 563, 46, 564, 95, 565, 566, 567, 568, 569, 98, 570, 571, 572, 24, 573, 53, 574, 575, 576, 577, 578, 579, 56, 580, 57, 581, 58, 582, 59, 55, 583, 584, 585, 586, 587, 588, 589, 497, 498, 52, 499, 64, 65, 66, 67, 590, 485, 486, 487, 99, 102, 100, 101, 1031, 1032, 1033, 1034, 1035, 1036, 1037, 1038, 1039, 1040, 1041, 1042, 1043, 1044, 1045, 1046, 1047, 1048, 1086, 1087, 1088, 1089, 1090, 1091, 1092, 1093, 1094, 1095, 1096, 1097, 1065, 1066, 1067, 1068, 1069, 1070, 1071, 1072] (by decide +kernel) (by decide +kernel)) (goodIn_sub (fun _ h => List.mem_append_left _ (List.mem_append_right _ h)) (by decide +kernel))) (goodIn_sub (fun _ h => List.mem_append_right _ h) (by decide +kernel))
set_option maxRecDepth 20000 in
theorem gL_law_L_store : GoodIn wsL_law (va_wsS RL 147 yL_store wsL_store) := goodIn_app (goodIn_of _ (by decide +kernel)) ggL_law_L_store
set_option maxRecDepth 20000 in
theorem ggL_law_X7_store : GoodIn wsL_law wsX7_store := goodIn_r _ [594, 152, 114, 244, 26, 115, 362, 505, 506, 507, 5, 508, 160, 161, 162, 109, 163, 164, 153, 154, 155, 156, 157, 158, 159, 249, 250, 251, 252, 253, 254, 255, 256, 257, 258, 259, 260, 261, 262, 263, 264, 123, 595, 596, 597, 598, 599, 600, 601, 116, 165, 166, 167, 168, 169, 170, 171, 172, 173, 174, 175, 176, 177, 178, 179, 180, 181, 182, 122, 183, 184, 185, 186, 187, 188, 189, 190, 191, 192, 193, 194, 195, 196, 197, 198, 199, 200, 201, 202, 203, 204, 205, 206, 207, 208, 209, 210, 211, 212, 213, 214, 215, 216, 515, 516, 517, 1049, 1050, 1051, 1052, 1053, 1054, 1055, 1056, 1057, 1058, 1059, 1060, 1061, 1062, 1063, 1064, 1098, 1099, 1100] (by decide +kernel) (by decide +kernel)
set_option maxRecDepth 20000 in
theorem gL_law_X7_store : GoodIn wsL_law (wsV RL 149 RX7 yX7_store wsX7_store) := goodIn_app (goodIn_of _ (by decide +kernel)) ggL_law_X7_store
set_option maxRecDepth 20000 in
theorem ggL_law_L_bias : GoodIn wsL_law wsL_bias := goodIn_ca (goodIn_ca (goodIn_r _ [604, 224, 605, 606, 607, 2, 608, 143, 144, 27, 609, 610, 611, 238, 239, 1031, 1032, 1033, 1034, 1035, 1036, 1037, 1038, 1039, 1040, 1041, 1042, 1043, 1044, 1045, 1046, 1047, 1048] (by decide +kernel) (by decide +kernel)) (goodIn_sub (fun _ h => List.mem_append_left _ (List.mem_append_left _ (List.mem_append_right _ h))) (by decide +kernel))) (goodIn_sub (fun _ h => List.mem_append_right _ h) (by decide +kernel))
set_option maxRecDepth 20000 in
theorem gL_law_L_bias : GoodIn wsL_law (va_wsS RL 150 yL_bias wsL_bias) := goodIn_app (goodIn_of _ (by decide +kernel)) ggL_law_L_bias
set_option maxRecDepth 20000 in
theorem ggL_law_X7_bias : GoodIn wsL_law wsX7_bias := goodIn_r _ [615, 152, 117, 616, 617, 5, 618, 153, 154, 155, 156, 157, 158, 159, 1049, 1050, 1051, 1052, 1053, 1054, 1055, 1056, 1057, 1058, 1059, 1060, 1061, 1062, 1063, 1064] (by decide +kernel) (by decide +kernel)
set_option maxRecDepth 20000 in
theorem gL_law_X7_bias : GoodIn wsL_law (wsV RL 152 RX7 yX7_bias wsX7_bias) := goodIn_app (goodIn_of _ (by decide +kernel)) ggL_law_X7_bias
set_option maxRecDepth 20000 in
theorem ggL_law_L_cup : GoodIn wsL_law wsL_cup := goodIn_ca (goodIn_ca (goodIn_r _ [621, 224, 622, 623, 624, 2, 625, 145, 146, 349, 14, 27, 626, 627, 628, 629, 630, 238, 239, 31, 22, 609, 610, 611, 631, 632, 633, 24, 634, 53, 56, 635, 184, 185, 186, 636, 637, 638, 52, 639, 64, 640, 66, 641, 642, 643, 644, 578, 58, 60, 645, 646, 647, 648, 57, 649, 650, 651, 652, 59, 1065, 1066, 1067, 1068, 1069, 1070, 1071, 1072, 1031, 1032, 1033, 1034, 1035, 1036, 1037, 1038, 1039, 1040, 1041, 1042, 1043, 1044, 1045, 1046, 1047, 1048, 1094, 1095, 1096, 1097, 1073, 1074, 1075, 1076] (by decide +kernel) (by decide +kernel)) (goodIn_sub (fun _ h => List.mem_append_left _ (List.mem_append_right _ h)) (by decide +kernel))) (goodIn_sub (fun _ h => List.mem_append_right _ h) (by decide +kernel))
set_option maxRecDepth 20000 in
theorem gL_law_L_cup : GoodIn wsL_law (va_wsS RL 153 yL_cup wsL_cup) := goodIn_app (goodIn_of _ (by decide +kernel)) ggL_law_L_cup
