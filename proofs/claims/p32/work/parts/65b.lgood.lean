set_option maxRecDepth 20000 in
theorem ggL_law_X6_ofFarm : GoodIn wsL_law wsX6_ofFarm := goodIn_ca (goodIn_ca (goodIn_r _ [161, 112, 113, 116, 162, 157, 163, 164, 165, 166, 2, 167, 10, 168, 169, 170, 171, 172, 173, 24, 174, 175, 176, 177, 27, 18, 130, 152, 178, 567, 568, 569, 570, 541, 542, 543, 544, 545, 546, 547, 548, 549, 550, 551, 552, 553, 554, 555, 556, 557, 558, 559, 560, 561, 562, 563, 564, 565, 566, 588, 589, 590, 591] (by decide +kernel) (by decide +kernel)) (goodIn_sub (fun _ h => List.mem_append_left _ (List.mem_append_left _ (List.mem_append_right _ h))) (by decide +kernel))) (goodIn_sub (fun _ h => List.mem_append_right _ h) (by decide +kernel))
set_option maxRecDepth 20000 in
theorem gL_law_X6_ofFarm : GoodIn wsL_law (wsV RL 32 RX6 yX6_ofFarm wsX6_ofFarm) := goodIn_app (goodIn_of _ (by decide +kernel)) ggL_law_X6_ofFarm
set_option maxRecDepth 20000 in
theorem ggL_law_X6_label : GoodIn wsL_law wsX6_label := goodIn_ca (goodIn_ca (goodIn_r _ [182, 112, 113, 162, 164, 165, 166, 2, 167, 10, 168, 169, 170, 171, 172, 173, 24, 567, 568, 569, 570, 541, 542, 543, 544, 545, 546, 547, 548, 549, 550, 551, 552, 553, 554, 555, 556, 557, 558] (by decide +kernel) (by decide +kernel)) (goodIn_sub (fun _ h => List.mem_append_left _ (List.mem_append_left _ (List.mem_append_right _ h))) (by decide +kernel))) (goodIn_sub (fun _ h => List.mem_append_right _ h) (by decide +kernel))
set_option maxRecDepth 20000 in
theorem gL_law_X6_label : GoodIn wsL_law (wsV RL 35 RX6 yX6_label wsX6_label) := goodIn_app (goodIn_of _ (by decide +kernel)) ggL_law_X6_label
set_option maxRecDepth 20000 in
theorem ggL_law_X6_price : GoodIn wsL_law wsX6_price := goodIn_ca (goodIn_r _ [186, 112, 113, 30, 541, 542, 543, 544, 545, 546, 547, 548, 549, 550, 551, 552, 553, 554, 555, 556, 557, 558] (by decide +kernel) (by decide +kernel)) (goodIn_sub (fun _ h => List.mem_append_left _ (List.mem_append_left _ (List.mem_append_right _ h))) (by decide +kernel))
set_option maxRecDepth 20000 in
theorem gL_law_X6_price : GoodIn wsL_law (wsV RL 38 RX6 yX6_price wsX6_price) := goodIn_app (goodIn_of _ (by decide +kernel)) ggL_law_X6_price
set_option maxRecDepth 20000 in
theorem ggL_law_X6_bring : GoodIn wsL_law wsX6_bring := goodIn_ca (goodIn_ca (goodIn_ca (goodIn_r _ [190, 112, 113, 114, 115, 25, 12, 162, 28, 31, 163, 157, 30, 29, 164, 165, 166, 2, 167, 10, 168, 169, 170, 171, 172, 173, 24, 191, 192, 193, 38, 194, 74, 75, 76, 79, 541, 542, 543, 544, 545, 546, 547, 548, 549, 550, 551, 552, 553, 554, 555, 556, 557, 558, 567, 568, 569, 570, 571, 572, 573, 574, 575, 576] (by decide +kernel) (by decide +kernel)) (goodIn_sub (fun _ h => List.mem_append_left _ (List.mem_append_left _ (List.mem_append_right _ h))) (by decide +kernel))) (goodIn_sub (fun _ h => List.mem_append_left _ (List.mem_append_right _ h)) (by decide +kernel))) (goodIn_sub (fun _ h => List.mem_append_right _ h) (by decide +kernel))
set_option maxRecDepth 20000 in
theorem gL_law_X6_bring : GoodIn wsL_law (wsV RL 41 RX6 yX6_bring wsX6_bring) := goodIn_app (goodIn_of _ (by decide +kernel)) ggL_law_X6_bring
set_option maxRecDepth 20000 in
theorem ggL_law_X6_ofBasket : GoodIn wsL_law wsX6_ofBasket := goodIn_ca (goodIn_ca (goodIn_r _ [198, 112, 113, 199, 136, 200, 135, 201, 202, 203, 204, 205, 2, 206, 172, 173, 25, 12, 571, 572, 573, 574, 575, 576, 541, 542, 543, 544, 545, 546, 547, 548, 549, 550, 551, 552, 553, 554, 555, 556, 557, 558] (by decide +kernel) (by decide +kernel)) (goodIn_sub (fun _ h => List.mem_append_left _ (List.mem_append_left _ (List.mem_append_right _ h))) (by decide +kernel))) (goodIn_sub (fun _ h => List.mem_append_right _ h) (by decide +kernel))
set_option maxRecDepth 20000 in
theorem gL_law_X6_ofBasket : GoodIn wsL_law (wsV RL 45 RX6 yX6_ofBasket wsX6_ofBasket) := goodIn_app (goodIn_of _ (by decide +kernel)) ggL_law_X6_ofBasket
set_option maxRecDepth 20000 in
theorem ggL_law_X6_ofTank : GoodIn wsL_law wsX6_ofTank := goodIn_ca (goodIn_ca (goodIn_r _ [210, 112, 113, 141, 142, 211, 212, 213, 214, 215, 216, 2, 217, 172, 173, 14, 218, 219, 220, 48, 221, 61, 577, 578, 579, 588, 589, 590, 591, 541, 542, 543, 544, 545, 546, 547, 548, 549, 550, 551, 552, 553, 554, 555, 556, 557, 558] (by decide +kernel) (by decide +kernel)) (goodIn_sub (fun _ h => List.mem_append_left _ (List.mem_append_left _ (List.mem_append_right _ h))) (by decide +kernel))) (goodIn_sub (fun _ h => List.mem_append_right _ h) (by decide +kernel))
set_option maxRecDepth 20000 in
theorem gL_law_X6_ofTank : GoodIn wsL_law (wsV RL 48 RX6 yX6_ofTank wsX6_ofTank) := goodIn_app (goodIn_of _ (by decide +kernel)) ggL_law_X6_ofTank
set_option maxRecDepth 20000 in
theorem ggL_law_L_pulp : GoodIn wsL_law wsL_pulp := goodIn_ca (goodIn_ca (goodIn_r _ [224, 225, 226, 227, 228, 2, 229, 114, 115, 136, 135, 141, 33, 142, 203, 204, 205, 206, 172, 173, 25, 12, 214, 215, 216, 217, 14, 230, 231, 232, 40, 233, 84, 85, 234, 235, 236, 237, 48, 238, 62, 239, 240, 241, 242, 63, 243, 60, 244, 245, 61, 246, 247, 571, 572, 573, 574, 575, 576, 577, 578, 579, 541, 542, 543, 544, 545, 546, 547, 548, 549, 550, 551, 552, 553, 554, 555, 556, 557, 558, 588, 589, 590, 591] (by decide +kernel) (by decide +kernel)) (goodIn_sub (fun _ h => List.mem_append_left _ (List.mem_append_right _ h)) (by decide +kernel))) (goodIn_sub (fun _ h => List.mem_append_right _ h) (by decide +kernel))
set_option maxRecDepth 20000 in
theorem gL_law_L_pulp : GoodIn wsL_law (va_wsS RL 51 yL_pulp wsL_pulp) := goodIn_app (goodIn_of _ (by decide +kernel)) ggL_law_L_pulp
