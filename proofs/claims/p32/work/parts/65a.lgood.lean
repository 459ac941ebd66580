theorem mem_cut {α : Type} {l : List α} {P : α → Prop} (n : Nat) (h1 : ∀ w ∈ l.take n, P w) (h2 : ∀ w ∈ l.drop n, P w) : ∀ w ∈ l, P w := fun w h => by
  rw [← List.take_append_drop n l] at h
  exact (List.mem_append.mp h).elim (h1 w) (h2 w)
theorem goodIn_cut {big l : List Cond} (n : Nat) (h1 : GoodIn big (l.take n)) (h2 : GoodIn big (l.drop n)) : GoodIn big l := mem_cut n h1 h2
set_option maxRecDepth 20000 in
theorem ggL_law_X6_init : GoodIn wsL_law wsX6_init := goodIn_cut 80 (goodIn_r _ [5, 6, 7, 8, 9, 10, 11, 12, 13, 14, 15, 16, 17, 18, 19, 20, 21, 22, 23, 24, 25, 26, 27, 28, 29, 30, 31, 32, 33, 34, 35, 36, 37, 38, 39, 40, 41, 42, 43, 44, 45, 46, 47, 48, 49, 50, 51, 52, 53, 54, 55, 56, 57, 58, 59, 60, 61, 62, 63, 64, 65, 66, 67, 68, 69, 70, 71, 72, 73, 74, 75, 76, 77, 78, 79, 80, 81, 82, 83, 84] (by decide +kernel) (by decide +kernel)) (goodIn_r _ [85, 86, 87, 88, 89, 90, 91, 92, 93, 94, 95, 96, 97, 98, 541, 542, 543, 544, 545, 546, 547, 548, 549, 550, 551, 552, 553, 554, 555, 556, 557, 558, 559, 560, 561, 562, 563, 564, 565, 566, 567, 568, 569, 570, 571, 572, 573, 574, 575, 576, 577, 578, 579, 580, 581, 582, 583, 584, 585, 586, 587, 588, 589, 590, 591] (by decide +kernel) (by decide +kernel))
set_option maxRecDepth 20000 in
theorem gL_law_X6_init : GoodIn wsL_law (wsX6_init) := ggL_law_X6_init
set_option maxRecDepth 20000 in
theorem ggL_law_L_cell : GoodIn wsL_law wsL_cell := goodIn_r _ [102, 103] (by decide +kernel) (by decide +kernel)
set_option maxRecDepth 20000 in
theorem gL_law_L_cell : GoodIn wsL_law (va_wsS RL 12 yL_cell wsL_cell) := goodIn_app (goodIn_of _ (by decide +kernel)) ggL_law_L_cell
set_option maxRecDepth 20000 in
theorem ggL_law_L_below : GoodIn wsL_law wsL_below := goodIn_r _ [106, 107] (by decide +kernel) (by decide +kernel)
set_option maxRecDepth 20000 in
theorem gL_law_L_below : GoodIn wsL_law (va_wsS RL 18 yL_below wsL_below) := goodIn_app (goodIn_of _ (by decide +kernel)) ggL_law_L_below
set_option maxRecDepth 20000 in
theorem ggL_law_X6_farm : GoodIn wsL_law wsX6_farm := goodIn_ca (goodIn_ca (goodIn_r _ [111, 112, 113, 114, 115, 24, 10, 116, 541, 542, 543, 544, 545, 546, 547, 548, 549, 550, 551, 552, 553, 554, 555, 556, 557, 558, 567, 568, 569, 570] (by decide +kernel) (by decide +kernel)) (goodIn_sub (fun _ h => List.mem_append_left _ (List.mem_append_left _ (List.mem_append_right _ h))) (by decide +kernel))) (goodIn_sub (fun _ h => List.mem_append_left _ (List.mem_append_right _ h)) (by decide +kernel))
set_option maxRecDepth 20000 in
theorem gL_law_X6_farm : GoodIn wsL_law (wsV RL 22 RX6 yX6_farm wsX6_farm) := goodIn_app (goodIn_of _ (by decide +kernel)) ggL_law_X6_farm
set_option maxRecDepth 20000 in
theorem ggL_law_X6_bed : GoodIn wsL_law wsX6_bed := goodIn_ca (goodIn_ca (goodIn_r _ [120, 112, 113, 114, 115, 26, 16, 121, 541, 542, 543, 544, 545, 546, 547, 548, 549, 550, 551, 552, 553, 554, 555, 556, 557, 558, 580, 581, 582, 583, 584, 585, 586, 587] (by decide +kernel) (by decide +kernel)) (goodIn_sub (fun _ h => List.mem_append_left _ (List.mem_append_left _ (List.mem_append_right _ h))) (by decide +kernel))) (goodIn_sub (fun _ h => List.mem_append_left _ (List.mem_append_right _ h)) (by decide +kernel))
set_option maxRecDepth 20000 in
theorem gL_law_X6_bed : GoodIn wsL_law (wsV RL 26 RX6 yX6_bed wsX6_bed) := goodIn_app (goodIn_of _ (by decide +kernel)) ggL_law_X6_bed
set_option maxRecDepth 20000 in
theorem ggL_law_X6_many : GoodIn wsL_law wsX6_many := goodIn_ca (goodIn_r _ [125, 112, 113, 28, 24, 25, 26, 27, 29, 31, 32, 33, 34, 126, 127, 128, 2, 129, 18, 130, 131, 132, 133, 134, 12, 135, 136, 137, 138, 139, 140, 14, 141, 142, 143, 144, 145, 146, 16, 147, 148, 149, 150, 151, 152, 153, 154, 155, 156, 10, 157, 541, 542, 543, 544, 545, 546, 547, 548, 549, 550, 551, 552, 553, 554, 555, 556, 557, 558, 559, 560, 561, 562, 563, 564, 565, 566, 571, 572, 573, 574, 575, 576, 577, 578, 579, 588, 589, 590, 591, 580, 581, 582, 583, 584, 585, 586, 587, 567, 568, 569, 570] (by decide +kernel) (by decide +kernel)) (goodIn_sub (fun _ h => List.mem_append_left _ (List.mem_append_left _ (List.mem_append_right _ h))) (by decide +kernel))
set_option maxRecDepth 20000 in
theorem gL_law_X6_many : GoodIn wsL_law (wsV RL 29 RX6 yX6_many wsX6_many) := goodIn_app (goodIn_of _ (by decide +kernel)) ggL_law_X6_many
