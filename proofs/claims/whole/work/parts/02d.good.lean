set_option maxRecDepth 20000 in
theorem ggX7_init_Jx4a65c_init_da8c8 : GoodIn wsX7_init wsJx4a65c_init_da8c8 := goodIn_r _ [19, 20, 21, 22, 23, 24, 25, 26, 27, 28, 29, 30, 31, 2, 3, 32, 33, 34] (by decide +kernel) (by decide +kernel)
set_option maxRecDepth 20000 in
theorem gX7_init_Jx4a65c_init_da8c8 : GoodIn wsX7_init (wsJx4a65c_init_da8c8) := ggX7_init_Jx4a65c_init_da8c8
set_option maxRecDepth 20000 in
theorem ggX7_isFarm_Jx4a65c_size_8abf5 : GoodIn wsX7_isFarm wsJx4a65c_size_8abf5 := goodIn_r _ [6, 7, 28, 29, 30] (by decide +kernel) (by decide +kernel)
set_option maxRecDepth 20000 in
theorem gX7_isFarm_Jx4a65c_size_8abf5 : GoodIn wsX7_isFarm (wsV RX7 44 RJx4a65c yJx4a65c_size_8abf5 wsJx4a65c_size_8abf5) := goodIn_app (goodIn_of _ (by decide +kernel)) ggX7_isFarm_Jx4a65c_size_8abf5
set_option maxRecDepth 20000 in
theorem ggX7_isFarm_X7_is : GoodIn wsX7_isFarm wsX7_is := goodIn_r _ [11] (by decide +kernel) (by decide +kernel)
set_option maxRecDepth 20000 in
theorem gX7_isFarm_X7_is : GoodIn wsX7_isFarm (va_wsS RX7 48 yX7_is wsX7_is) := goodIn_app (goodIn_of _ (by decide +kernel)) ggX7_isFarm_X7_is
set_option maxRecDepth 20000 in
theorem ggX7_isBasket_Jx4a65c_size_8abf5 : GoodIn wsX7_isBasket wsJx4a65c_size_8abf5 := goodIn_r _ [6, 7, 28, 29, 30] (by decide +kernel) (by decide +kernel)
set_option maxRecDepth 20000 in
theorem gX7_isBasket_Jx4a65c_size_8abf5 : GoodIn wsX7_isBasket (wsV RX7 44 RJx4a65c yJx4a65c_size_8abf5 wsJx4a65c_size_8abf5) := goodIn_app (goodIn_of _ (by decide +kernel)) ggX7_isBasket_Jx4a65c_size_8abf5
set_option maxRecDepth 20000 in
theorem ggX7_isBasket_X7_is : GoodIn wsX7_isBasket wsX7_is := goodIn_r _ [11] (by decide +kernel) (by decide +kernel)
set_option maxRecDepth 20000 in
theorem gX7_isBasket_X7_is : GoodIn wsX7_isBasket (va_wsS RX7 48 yX7_is wsX7_is) := goodIn_app (goodIn_of _ (by decide +kernel)) ggX7_isBasket_X7_is
set_option maxRecDepth 20000 in
theorem ggX7_isTank_X7_is : GoodIn wsX7_isTank wsX7_is := goodIn_r _ [4] (by decide +kernel) (by decide +kernel)
set_option maxRecDepth 20000 in
theorem gX7_isTank_X7_is : GoodIn wsX7_isTank (va_wsS RX7 48 yX7_is wsX7_is) := goodIn_app (goodIn_of _ (by decide +kernel)) ggX7_isTank_X7_is
set_option maxRecDepth 20000 in
theorem ggX7_isBed_Jx4a65c_size_8abf5 : GoodIn wsX7_isBed wsJx4a65c_size_8abf5 := goodIn_r _ [6, 7, 28, 29, 30] (by decide +kernel) (by decide +kernel)
set_option maxRecDepth 20000 in
theorem gX7_isBed_Jx4a65c_size_8abf5 : GoodIn wsX7_isBed (wsV RX7 44 RJx4a65c yJx4a65c_size_8abf5 wsJx4a65c_size_8abf5) := goodIn_app (goodIn_of _ (by decide +kernel)) ggX7_isBed_Jx4a65c_size_8abf5
set_option maxRecDepth 20000 in
theorem ggX7_isBed_X7_is : GoodIn wsX7_isBed wsX7_is := goodIn_r _ [11] (by decide +kernel) (by decide +kernel)
set_option maxRecDepth 20000 in
theorem gX7_isBed_X7_is : GoodIn wsX7_isBed (va_wsS RX7 48 yX7_is wsX7_is) := goodIn_app (goodIn_of _ (by decide +kernel)) ggX7_isBed_X7_is
set_option maxRecDepth 20000 in
theorem ggX7_isLot_Jx4a65c_size_8abf5 : GoodIn wsX7_isLot wsJx4a65c_size_8abf5 := goodIn_r _ [6, 7, 28, 29, 30] (by decide +kernel) (by decide +kernel)
set_option maxRecDepth 20000 in
theorem gX7_isLot_Jx4a65c_size_8abf5 : GoodIn wsX7_isLot (wsV RX7 44 RJx4a65c yJx4a65c_size_8abf5 wsJx4a65c_size_8abf5) := goodIn_app (goodIn_of _ (by decide +kernel)) ggX7_isLot_Jx4a65c_size_8abf5
set_option maxRecDepth 20000 in
theorem ggX7_isLot_X7_is : GoodIn wsX7_isLot wsX7_is := goodIn_r _ [11] (by decide +kernel) (by decide +kernel)
set_option maxRecDepth 20000 in
theorem gX7_isLot_X7_is : GoodIn wsX7_isLot (va_wsS RX7 48 yX7_is wsX7_is) := goodIn_app (goodIn_of _ (by decide +kernel)) ggX7_isLot_X7_is
set_option maxRecDepth 20000 in
theorem ggX7_isWarmth_X7_is : GoodIn wsX7_isWarmth wsX7_is := goodIn_r _ [4] (by decide +kernel) (by decide +kernel)
set_option maxRecDepth 20000 in
theorem gX7_isWarmth_X7_is : GoodIn wsX7_isWarmth (va_wsS RX7 48 yX7_is wsX7_is) := goodIn_app (goodIn_of _ (by decide +kernel)) ggX7_isWarmth_X7_is
set_option maxRecDepth 20000 in
theorem ggX7_come_X7_mean : GoodIn wsX7_come wsX7_mean := goodIn_r _ [4] (by decide +kernel) (by decide +kernel)
set_option maxRecDepth 20000 in
theorem gX7_come_X7_mean : GoodIn wsX7_come (va_wsS RX7 52 yX7_mean wsX7_mean) := goodIn_app (goodIn_of _ (by decide +kernel)) ggX7_come_X7_mean
set_option maxRecDepth 20000 in
theorem ggX7_farm_X7_is : GoodIn wsX7_farm wsX7_is := goodIn_r _ [7] (by decide +kernel) (by decide +kernel)
set_option maxRecDepth 20000 in
theorem gX7_farm_X7_is : GoodIn wsX7_farm (va_wsS RX7 48 yX7_is wsX7_is) := goodIn_app (goodIn_of _ (by decide +kernel)) ggX7_farm_X7_is
set_option maxRecDepth 20000 in
theorem ggX7_farm_X7_refuse : GoodIn wsX7_farm wsX7_refuse := goodIn_r _ [11, 1, 72, 73, 74, 75, 76, 77, 78, 79, 80, 81, 82, 83, 84, 85, 86, 87] (by decide +kernel) (by decide +kernel)
set_option maxRecDepth 20000 in
theorem gX7_farm_X7_refuse : GoodIn wsX7_farm (wsV RX7 56 RX7 yX7_refuse wsX7_refuse) := goodIn_app (goodIn_of _ (by decide +kernel)) ggX7_farm_X7_refuse
set_option maxRecDepth 20000 in
theorem ggX7_farm_Jx4a65c_size_8abf5 : GoodIn wsX7_farm wsJx4a65c_size_8abf5 := goodIn_r _ [16, 17, 88, 89, 90] (by decide +kernel) (by decide +kernel)
set_option maxRecDepth 20000 in
theorem gX7_farm_Jx4a65c_size_8abf5 : GoodIn wsX7_farm (wsV RX7 44 RJx4a65c yJx4a65c_size_8abf5 wsJx4a65c_size_8abf5) := goodIn_app (goodIn_of _ (by decide +kernel)) ggX7_farm_Jx4a65c_size_8abf5
set_option maxRecDepth 20000 in
theorem ggX7_farm_Jx4a65c_add_9ea2d : GoodIn wsX7_farm wsJx4a65c_add_9ea2d := goodIn_r _ [21, 22, 23, 24, 17, 25, 26, 27, 15, 28, 29, 30, 31, 32, 33, 34, 35, 36, 37, 38, 39, 40, 41, 42, 43, 44, 45, 46, 47, 48, 49, 50, 51, 52, 53, 54, 55, 56, 57, 58, 59, 60, 61, 62, 63, 64, 65, 66, 67, 68, 69, 70, 71, 88, 89, 90] (by decide +kernel) (by decide +kernel)
set_option maxRecDepth 20000 in
theorem gX7_farm_Jx4a65c_add_9ea2d : GoodIn wsX7_farm (wsV RX7 60 RJx4a65c yJx4a65c_add_9ea2d wsJx4a65c_add_9ea2d) := goodIn_app (goodIn_of _ (by decide +kernel)) ggX7_farm_Jx4a65c_add_9ea2d
set_option maxRecDepth 20000 in
theorem ggX7_label_X7_isFarm : GoodIn wsX7_label wsX7_isFarm := goodIn_r _ [8, 2, 9, 10, 11, 12, 13, 14, 15, 16, 7, 17, 39, 40, 41, 42, 43, 44, 45, 46, 47, 48, 49, 50, 51, 52, 53, 54, 55, 56, 57] (by decide +kernel) (by decide +kernel)
set_option maxRecDepth 20000 in
theorem gX7_label_X7_isFarm : GoodIn wsX7_label (wsV RX7 64 RX7 yX7_isFarm wsX7_isFarm) := goodIn_app (goodIn_of _ (by decide +kernel)) ggX7_label_X7_isFarm
set_option maxRecDepth 20000 in
theorem ggX7_label_X7_refuse : GoodIn wsX7_label wsX7_refuse := goodIn_r _ [21, 1, 39, 40, 41, 42, 43, 44, 45, 46, 47, 48, 49, 50, 51, 52, 53, 54] (by decide +kernel) (by decide +kernel)
set_option maxRecDepth 20000 in
theorem gX7_label_X7_refuse : GoodIn wsX7_label (wsV RX7 56 RX7 yX7_refuse wsX7_refuse) := goodIn_app (goodIn_of _ (by decide +kernel)) ggX7_label_X7_refuse
set_option maxRecDepth 20000 in
theorem ggX7_label_X7_is : GoodIn wsX7_label wsX7_is := goodIn_r _ [17] (by decide +kernel) (by decide +kernel)
set_option maxRecDepth 20000 in
theorem gX7_label_X7_is : GoodIn wsX7_label (va_wsS RX7 48 yX7_is wsX7_is) := goodIn_app (goodIn_of _ (by decide +kernel)) ggX7_label_X7_is
set_option maxRecDepth 20000 in
theorem ggX7_label_Jx4a65c_get_915e3 : GoodIn wsX7_label wsJx4a65c_get_915e3 := goodIn_r _ [25, 14, 26, 27, 28, 29, 30, 31, 32, 33, 34, 35, 36, 12, 37, 38, 55, 56, 57] (by decide +kernel) (by decide +kernel)
set_option maxRecDepth 20000 in
theorem gX7_label_Jx4a65c_get_915e3 : GoodIn wsX7_label (wsV RX7 68 RJx4a65c yJx4a65c_get_915e3 wsJx4a65c_get_915e3) := goodIn_app (goodIn_of _ (by decide +kernel)) ggX7_label_Jx4a65c_get_915e3
set_option maxRecDepth 20000 in
theorem ggX7_price_X7_is : GoodIn wsX7_price wsX7_is := goodIn_r _ [6] (by decide +kernel) (by decide +kernel)
set_option maxRecDepth 20000 in
theorem gX7_price_X7_is : GoodIn wsX7_price (va_wsS RX7 48 yX7_is wsX7_is) := goodIn_app (goodIn_of _ (by decide +kernel)) ggX7_price_X7_is
set_option maxRecDepth 20000 in
theorem ggX7_price_X7_refuse : GoodIn wsX7_price wsX7_refuse := goodIn_r _ [10, 1, 11, 12, 13, 14, 15, 16, 17, 18, 19, 20, 21, 22, 23, 24, 25, 26] (by decide +kernel) (by decide +kernel)
set_option maxRecDepth 20000 in
theorem gX7_price_X7_refuse : GoodIn wsX7_price (wsV RX7 56 RX7 yX7_refuse wsX7_refuse) := goodIn_app (goodIn_of _ (by decide +kernel)) ggX7_price_X7_refuse
set_option maxRecDepth 20000 in
theorem ggX7_bring_X7_isFarm : GoodIn wsX7_bring wsX7_isFarm := goodIn_r _ [14, 3, 15, 16, 17, 18, 19, 20, 21, 22, 13, 23, 98, 99, 100, 101, 102, 103, 104, 105, 106, 107, 108, 109, 110, 111, 112, 113, 114, 115, 116] (by decide +kernel) (by decide +kernel)
set_option maxRecDepth 20000 in
theorem gX7_bring_X7_isFarm : GoodIn wsX7_bring (wsV RX7 64 RX7 yX7_isFarm wsX7_isFarm) := goodIn_app (goodIn_of _ (by decide +kernel)) ggX7_bring_X7_isFarm
set_option maxRecDepth 20000 in
theorem ggX7_bring_X7_refuse : GoodIn wsX7_bring wsX7_refuse := goodIn_r _ [27, 1, 98, 99, 100, 101, 102, 103, 104, 105, 106, 107, 108, 109, 110, 111, 112, 113] (by decide +kernel) (by decide +kernel)
set_option maxRecDepth 20000 in
theorem gX7_bring_X7_refuse : GoodIn wsX7_bring (wsV RX7 56 RX7 yX7_refuse wsX7_refuse) := goodIn_app (goodIn_of _ (by decide +kernel)) ggX7_bring_X7_refuse
set_option maxRecDepth 20000 in
theorem ggX7_bring_X7_is : GoodIn wsX7_bring wsX7_is := goodIn_r _ [23] (by decide +kernel) (by decide +kernel)
set_option maxRecDepth 20000 in
theorem gX7_bring_X7_is : GoodIn wsX7_bring (va_wsS RX7 48 yX7_is wsX7_is) := goodIn_app (goodIn_of _ (by decide +kernel)) ggX7_bring_X7_is
set_option maxRecDepth 20000 in
theorem ggX7_bring_Jx4a65c_size_8abf5 : GoodIn wsX7_bring wsJx4a65c_size_8abf5 := goodIn_r _ [19, 20, 114, 115, 116] (by decide +kernel) (by decide +kernel)
set_option maxRecDepth 20000 in
theorem gX7_bring_Jx4a65c_size_8abf5 : GoodIn wsX7_bring (wsV RX7 44 RJx4a65c yJx4a65c_size_8abf5 wsJx4a65c_size_8abf5) := goodIn_app (goodIn_of _ (by decide +kernel)) ggX7_bring_Jx4a65c_size_8abf5
set_option maxRecDepth 20000 in
theorem ggX7_bring_Jx4a65c_get_915e3 : GoodIn wsX7_bring wsJx4a65c_get_915e3 := goodIn_r _ [31, 20, 32, 33, 34, 35, 36, 37, 38, 39, 40, 41, 42, 18, 43, 44, 114, 115, 116] (by decide +kernel) (by decide +kernel)
set_option maxRecDepth 20000 in
theorem gX7_bring_Jx4a65c_get_915e3 : GoodIn wsX7_bring (wsV RX7 68 RJx4a65c yJx4a65c_get_915e3 wsJx4a65c_get_915e3) := goodIn_app (goodIn_of _ (by decide +kernel)) ggX7_bring_Jx4a65c_get_915e3
set_option maxRecDepth 20000 in
theorem ggX7_bring_Jx4a65c_add_9ea2d : GoodIn wsX7_bring wsJx4a65c_add_9ea2d := goodIn_r _ [48, 49, 50, 44, 20, 51, 52, 53, 18, 54, 55, 56, 57, 58, 59, 60, 61, 62, 63, 64, 65, 66, 67, 68, 69, 70, 71, 72, 73, 74, 75, 76, 77, 78, 79, 80, 81, 82, 83, 84, 85, 86, 87, 88, 89, 90, 91, 92, 93, 94, 95, 96, 97, 114, 115, 116] (by decide +kernel) (by decide +kernel)
set_option maxRecDepth 20000 in
theorem gX7_bring_Jx4a65c_add_9ea2d : GoodIn wsX7_bring (wsV RX7 60 RJx4a65c yJx4a65c_add_9ea2d wsJx4a65c_add_9ea2d) := goodIn_app (goodIn_of _ (by decide +kernel)) ggX7_bring_Jx4a65c_add_9ea2d
set_option maxRecDepth 20000 in
theorem ggX7_dry_X7_is : GoodIn wsX7_dry wsX7_is := goodIn_r _ [8] (by decide +kernel) (by decide +kernel)
set_option maxRecDepth 20000 in
theorem gX7_dry_X7_is : GoodIn wsX7_dry (va_wsS RX7 48 yX7_is wsX7_is) := goodIn_app (goodIn_of _ (by decide +kernel)) ggX7_dry_X7_is
set_option maxRecDepth 20000 in
theorem ggX7_dry_X7_dries : GoodIn wsX7_dry wsX7_dries := goodIn_r _ [11] (by decide +kernel) (by decide +kernel)
set_option maxRecDepth 20000 in
theorem gX7_dry_X7_dries : GoodIn wsX7_dry (va_wsS RX7 82 yX7_dries wsX7_dries) := goodIn_app (goodIn_of _ (by decide +kernel)) ggX7_dry_X7_dries
set_option maxRecDepth 20000 in
theorem ggX7_pass_Jx4a65c_iterator_32c93 : GoodIn wsX7_pass wsJx4a65c_iterator_32c93 := goodIn_r _ [16, 17, 18, 19, 20, 21, 22, 23, 24, 25, 26, 27, 28, 29, 30, 77, 78, 79, 80, 81, 82, 83] (by decide +kernel) (by decide +kernel)
set_option maxRecDepth 20000 in
theorem gX7_pass_Jx4a65c_iterator_32c93 : GoodIn wsX7_pass (wsV RX7 92 RJx4a65c yJx4a65c_iterator_32c93 wsJx4a65c_iterator_32c93) := goodIn_app (goodIn_of _ (by decide +kernel)) ggX7_pass_Jx4a65c_iterator_32c93
set_option maxRecDepth 20000 in
theorem ggX7_pass_Jx35411_hasNext_aae02 : GoodIn wsX7_pass wsJx35411_hasNext_aae02 := goodIn_r _ [34, 35, 23, 77, 78, 79, 80, 81, 82, 83] (by decide +kernel) (by decide +kernel)
set_option maxRecDepth 20000 in
theorem gX7_pass_Jx35411_hasNext_aae02_f96Jx35411 : GoodIn wsX7_pass (va_wsF RX7 96 RJx35411 ⟨"java/util/Iterator", "hasNext", "()Z"⟩ yJx35411_hasNext_aae02 wsJx35411_hasNext_aae02) := goodIn_app (goodIn_of _ (by decide +kernel)) ggX7_pass_Jx35411_hasNext_aae02
set_option maxRecDepth 20000 in
theorem ggX7_pass_Jx35411_next_0502b : GoodIn wsX7_pass wsJx35411_next_0502b := goodIn_r _ [39, 35, 23, 40, 27, 41, 42, 43, 19, 44, 28, 29, 30, 77, 78, 79, 80, 81, 82, 83] (by decide +kernel) (by decide +kernel)
set_option maxRecDepth 20000 in
theorem gX7_pass_Jx35411_next_0502b_f102Jx35411 : GoodIn wsX7_pass (va_wsF RX7 102 RJx35411 ⟨"java/util/Iterator", "next", "()Ljava/lang/Object;"⟩ yJx35411_next_0502b wsJx35411_next_0502b) := goodIn_app (goodIn_of _ (by decide +kernel)) ggX7_pass_Jx35411_next_0502b
set_option maxRecDepth 20000 in
theorem ggX7_pass_X7_rises : GoodIn wsX7_pass wsX7_rises := goodIn_r _ [48] (by decide +kernel) (by decide +kernel)
set_option maxRecDepth 20000 in
theorem gX7_pass_X7_rises : GoodIn wsX7_pass (va_wsS RX7 109 yX7_rises wsX7_rises) := goodIn_app (goodIn_of _ (by decide +kernel)) ggX7_pass_X7_rises
set_option maxRecDepth 20000 in
theorem ggX7_pass_X7_dry : GoodIn wsX7_pass wsX7_dry := goodIn_r _ [51, 52, 53, 9, 54, 55, 56, 47, 57, 58, 59, 60] (by decide +kernel) (by decide +kernel)
set_option maxRecDepth 20000 in
theorem gX7_pass_X7_dry : GoodIn wsX7_pass (va_wsS RX7 115 yX7_dry wsX7_dry) := goodIn_app (goodIn_of _ (by decide +kernel)) ggX7_pass_X7_dry
set_option maxRecDepth 20000 in
theorem ggX7_pass__X7_is : GoodIn wsX7_pass_ wsX7_is := goodIn_r _ [6] (by decide +kernel) (by decide +kernel)
set_option maxRecDepth 20000 in
theorem gX7_pass__X7_is : GoodIn wsX7_pass_ (va_wsS RX7 48 yX7_is wsX7_is) := goodIn_app (goodIn_of _ (by decide +kernel)) ggX7_pass__X7_is
set_option maxRecDepth 20000 in
theorem ggX7_pass__X7_isWarmth : GoodIn wsX7_pass_ wsX7_isWarmth := goodIn_r _ [9, 3, 4, 5, 6] (by decide +kernel) (by decide +kernel)
set_option maxRecDepth 20000 in
theorem gX7_pass__X7_isWarmth : GoodIn wsX7_pass_ (va_wsS RX7 119 yX7_isWarmth wsX7_isWarmth) := goodIn_app (goodIn_of _ (by decide +kernel)) ggX7_pass__X7_isWarmth
set_option maxRecDepth 20000 in
theorem ggX7_pass__X7_refuse : GoodIn wsX7_pass_ wsX7_refuse := goodIn_r _ [13, 1, 73, 74, 75, 76, 77, 78, 79, 80, 81, 82, 83, 84, 85, 86, 87, 88] (by decide +kernel) (by decide +kernel)
set_option maxRecDepth 20000 in
theorem gX7_pass__X7_refuse : GoodIn wsX7_pass_ (wsV RX7 56 RX7 yX7_refuse wsX7_refuse) := goodIn_app (goodIn_of _ (by decide +kernel)) ggX7_pass__X7_refuse
set_option maxRecDepth 20000 in
theorem ggX7_pass__X7_pass : GoodIn wsX7_pass_ wsX7_pass := goodIn_r _ [17, 2, 18, 19, 20, 21, 22, 23, 24, 25, 26, 27, 28, 29, 30, 31, 32, 33, 34, 35, 36, 37, 38, 39, 40, 41, 42, 43, 44, 45, 46, 47, 48, 49, 50, 51, 52, 53, 54, 55, 56, 57, 58, 59, 60, 61, 62, 5, 63, 64, 65, 66, 67, 68, 69, 3, 4, 6, 70, 71, 72, 73, 74, 75, 76, 77, 78, 79, 80, 81, 82, 83, 84, 85, 86, 87, 88, 89, 90, 91, 92, 93, 94, 95] (by decide +kernel) (by decide +kernel)
set_option maxRecDepth 20000 in
theorem gX7_pass__X7_pass : GoodIn wsX7_pass_ (wsV RX7 122 RX7 yX7_pass wsX7_pass) := goodIn_app (goodIn_of _ (by decide +kernel)) ggX7_pass__X7_pass
set_option maxRecDepth 20000 in
theorem ggX7_bed_X7_is : GoodIn wsX7_bed wsX7_is := goodIn_r _ [7] (by decide +kernel) (by decide +kernel)
set_option maxRecDepth 20000 in
theorem gX7_bed_X7_is : GoodIn wsX7_bed (va_wsS RX7 48 yX7_is wsX7_is) := goodIn_app (goodIn_of _ (by decide +kernel)) ggX7_bed_X7_is
set_option maxRecDepth 20000 in
theorem ggX7_bed_X7_refuse : GoodIn wsX7_bed wsX7_refuse := goodIn_r _ [11, 1, 72, 73, 74, 75, 76, 77, 78, 79, 80, 81, 82, 83, 84, 85, 86, 87] (by decide +kernel) (by decide +kernel)
set_option maxRecDepth 20000 in
theorem gX7_bed_X7_refuse : GoodIn wsX7_bed (wsV RX7 56 RX7 yX7_refuse wsX7_refuse) := goodIn_app (goodIn_of _ (by decide +kernel)) ggX7_bed_X7_refuse
set_option maxRecDepth 20000 in
theorem ggX7_bed_Jx4a65c_size_8abf5 : GoodIn wsX7_bed wsJx4a65c_size_8abf5 := goodIn_r _ [16, 17, 88, 89, 90] (by decide +kernel) (by decide +kernel)
set_option maxRecDepth 20000 in
theorem gX7_bed_Jx4a65c_size_8abf5 : GoodIn wsX7_bed (wsV RX7 44 RJx4a65c yJx4a65c_size_8abf5 wsJx4a65c_size_8abf5) := goodIn_app (goodIn_of _ (by decide +kernel)) ggX7_bed_Jx4a65c_size_8abf5
set_option maxRecDepth 20000 in
theorem ggX7_bed_Jx4a65c_add_9ea2d : GoodIn wsX7_bed wsJx4a65c_add_9ea2d := goodIn_r _ [21, 22, 23, 24, 17, 25, 26, 27, 15, 28, 29, 30, 31, 32, 33, 34, 35, 36, 37, 38, 39, 40, 41, 42, 43, 44, 45, 46, 47, 48, 49, 50, 51, 52, 53, 54, 55, 56, 57, 58, 59, 60, 61, 62, 63, 64, 65, 66, 67, 68, 69, 70, 71, 88, 89, 90] (by decide +kernel) (by decide +kernel)
set_option maxRecDepth 20000 in
theorem gX7_bed_Jx4a65c_add_9ea2d : GoodIn wsX7_bed (wsV RX7 60 RJx4a65c yJx4a65c_add_9ea2d wsJx4a65c_add_9ea2d) := goodIn_app (goodIn_of _ (by decide +kernel)) ggX7_bed_Jx4a65c_add_9ea2d
set_option maxRecDepth 20000 in
theorem ggX7_pulp_X7_isBasket : GoodIn wsX7_pulp wsX7_isBasket := goodIn_r _ [10, 2, 11, 12, 13, 14, 15, 16, 17, 18, 9, 19, 54, 55, 56, 57, 58, 59, 60, 61, 62, 63, 64, 65, 66, 67, 68, 69, 70, 71, 72] (by decide +kernel) (by decide +kernel)
set_option maxRecDepth 20000 in
theorem gX7_pulp_X7_isBasket : GoodIn wsX7_pulp (wsV RX7 125 RX7 yX7_isBasket wsX7_isBasket) := goodIn_app (goodIn_of _ (by decide +kernel)) ggX7_pulp_X7_isBasket
set_option maxRecDepth 20000 in
theorem ggX7_pulp_X7_isTank : GoodIn wsX7_pulp wsX7_isTank := goodIn_r _ [22, 17, 18, 9, 19] (by decide +kernel) (by decide +kernel)
set_option maxRecDepth 20000 in
theorem gX7_pulp_X7_isTank : GoodIn wsX7_pulp (va_wsS RX7 128 yX7_isTank wsX7_isTank) := goodIn_app (goodIn_of _ (by decide +kernel)) ggX7_pulp_X7_isTank
set_option maxRecDepth 20000 in
theorem ggX7_pulp_X7_refuse : GoodIn wsX7_pulp wsX7_refuse := goodIn_r _ [26, 1, 54, 55, 56, 57, 58, 59, 60, 61, 62, 63, 64, 65, 66, 67, 68, 69] (by decide +kernel) (by decide +kernel)
set_option maxRecDepth 20000 in
theorem gX7_pulp_X7_refuse : GoodIn wsX7_pulp (wsV RX7 56 RX7 yX7_refuse wsX7_refuse) := goodIn_app (goodIn_of _ (by decide +kernel)) ggX7_pulp_X7_refuse
set_option maxRecDepth 20000 in
theorem ggX7_pulp_Jx4a65c_get_915e3 : GoodIn wsX7_pulp wsJx4a65c_get_915e3 := goodIn_r _ [30, 16, 31, 32, 33, 34, 35, 36, 37, 38, 39, 40, 41, 14, 42, 43, 70, 71, 72] (by decide +kernel) (by decide +kernel)
set_option maxRecDepth 20000 in
theorem gX7_pulp_Jx4a65c_get_915e3 : GoodIn wsX7_pulp (wsV RX7 68 RJx4a65c yJx4a65c_get_915e3 wsJx4a65c_get_915e3) := goodIn_app (goodIn_of _ (by decide +kernel)) ggX7_pulp_Jx4a65c_get_915e3
set_option maxRecDepth 20000 in
theorem ggX7_pulp_X7_mixOf : GoodIn wsX7_pulp wsX7_mixOf := goodIn_r _ [46, 47] (by decide +kernel) (by decide +kernel)
set_option maxRecDepth 20000 in
theorem gX7_pulp_X7_mixOf : GoodIn wsX7_pulp (va_wsS RX7 131 yX7_mixOf wsX7_mixOf) := goodIn_app (goodIn_of _ (by decide +kernel)) ggX7_pulp_X7_mixOf
set_option maxRecDepth 20000 in
theorem ggX7_pulp_X7_come : GoodIn wsX7_pulp wsX7_come := goodIn_r _ [50, 51, 52, 9, 53] (by decide +kernel) (by decide +kernel)
set_option maxRecDepth 20000 in
theorem gX7_pulp_X7_come : GoodIn wsX7_pulp (va_wsS RX7 135 yX7_come wsX7_come) := goodIn_app (goodIn_of _ (by decide +kernel)) ggX7_pulp_X7_come
set_option maxRecDepth 20000 in
theorem ggX7_lay_X7_come : GoodIn wsX7_lay wsX7_come := goodIn_r _ [4, 5, 6, 3, 7] (by decide +kernel) (by decide +kernel)
set_option maxRecDepth 20000 in
theorem gX7_lay_X7_come : GoodIn wsX7_lay (va_wsS RX7 135 yX7_come wsX7_come) := goodIn_app (goodIn_of _ (by decide +kernel)) ggX7_lay_X7_come
set_option maxRecDepth 20000 in
theorem ggX7_wash_X7_isTank : GoodIn wsX7_wash wsX7_isTank := goodIn_r _ [9, 10, 11, 8, 12] (by decide +kernel) (by decide +kernel)
set_option maxRecDepth 20000 in
theorem gX7_wash_X7_isTank : GoodIn wsX7_wash (va_wsS RX7 128 yX7_isTank wsX7_isTank) := goodIn_app (goodIn_of _ (by decide +kernel)) ggX7_wash_X7_isTank
set_option maxRecDepth 20000 in
theorem ggX7_wash_X7_isBed : GoodIn wsX7_wash wsX7_isBed := goodIn_r _ [16, 3, 17, 18, 19, 20, 21, 22, 10, 11, 8, 12, 59, 60, 61, 62, 63, 64, 65, 66, 67, 68, 69, 70, 71, 72, 73, 74, 75, 76, 77] (by decide +kernel) (by decide +kernel)
set_option maxRecDepth 20000 in
theorem gX7_wash_X7_isBed : GoodIn wsX7_wash (wsV RX7 139 RX7 yX7_isBed wsX7_isBed) := goodIn_app (goodIn_of _ (by decide +kernel)) ggX7_wash_X7_isBed
set_option maxRecDepth 20000 in
theorem ggX7_wash_X7_refuse : GoodIn wsX7_wash wsX7_refuse := goodIn_r _ [26, 1, 59, 60, 61, 62, 63, 64, 65, 66, 67, 68, 69, 70, 71, 72, 73, 74] (by decide +kernel) (by decide +kernel)
set_option maxRecDepth 20000 in
theorem gX7_wash_X7_refuse : GoodIn wsX7_wash (wsV RX7 56 RX7 yX7_refuse wsX7_refuse) := goodIn_app (goodIn_of _ (by decide +kernel)) ggX7_wash_X7_refuse
set_option maxRecDepth 20000 in
theorem ggX7_wash_Jx4a65c_get_915e3 : GoodIn wsX7_wash wsJx4a65c_get_915e3 := goodIn_r _ [30, 22, 31, 32, 33, 34, 35, 36, 37, 38, 39, 40, 41, 20, 42, 43, 75, 76, 77] (by decide +kernel) (by decide +kernel)
set_option maxRecDepth 20000 in
theorem gX7_wash_Jx4a65c_get_915e3 : GoodIn wsX7_wash (wsV RX7 68 RJx4a65c yJx4a65c_get_915e3 wsJx4a65c_get_915e3) := goodIn_app (goodIn_of _ (by decide +kernel)) ggX7_wash_Jx4a65c_get_915e3
set_option maxRecDepth 20000 in
theorem ggX7_wash_X7_isRoom : GoodIn wsX7_wash wsX7_isRoom := goodIn_r _ [46] (by decide +kernel) (by decide +kernel)
set_option maxRecDepth 20000 in
theorem gX7_wash_X7_isRoom : GoodIn wsX7_wash (va_wsS RX7 142 yX7_isRoom wsX7_isRoom) := goodIn_app (goodIn_of _ (by decide +kernel)) ggX7_wash_X7_isRoom
set_option maxRecDepth 20000 in
theorem ggX7_wash_X7_lay : GoodIn wsX7_wash wsX7_lay := goodIn_r _ [49, 50, 51, 8, 52, 53, 54, 55] (by decide +kernel) (by decide +kernel)
set_option maxRecDepth 20000 in
theorem gX7_wash_X7_lay : GoodIn wsX7_wash (va_wsS RX7 146 yX7_lay wsX7_lay) := goodIn_app (goodIn_of _ (by decide +kernel)) ggX7_wash_X7_lay
set_option maxRecDepth 20000 in
theorem ggX7_wash_X7_empty : GoodIn wsX7_wash wsX7_empty := goodIn_r _ [58] (by decide +kernel) (by decide +kernel)
set_option maxRecDepth 20000 in
theorem gX7_wash_X7_empty : GoodIn wsX7_wash (va_wsS RX7 153 yX7_empty wsX7_empty) := goodIn_app (goodIn_of _ (by decide +kernel)) ggX7_wash_X7_empty
set_option maxRecDepth 20000 in
theorem ggX7_whole_X7_isBasket : GoodIn wsX7_whole wsX7_isBasket := goodIn_r _ [9, 2, 10, 11, 12, 13, 14, 15, 16, 17, 8, 18, 60, 61, 62, 63, 64, 65, 66, 67, 68, 69, 70, 71, 72, 73, 74, 75, 76, 77, 78] (by decide +kernel) (by decide +kernel)
set_option maxRecDepth 20000 in
theorem gX7_whole_X7_isBasket : GoodIn wsX7_whole (wsV RX7 125 RX7 yX7_isBasket wsX7_isBasket) := goodIn_app (goodIn_of _ (by decide +kernel)) ggX7_whole_X7_isBasket
set_option maxRecDepth 20000 in
theorem ggX7_whole_X7_isBed : GoodIn wsX7_whole wsX7_isBed := goodIn_r _ [22, 4, 10, 11, 12, 13, 14, 15, 16, 17, 8, 18, 60, 61, 62, 63, 64, 65, 66, 67, 68, 69, 70, 71, 72, 73, 74, 75, 76, 77, 78] (by decide +kernel) (by decide +kernel)
set_option maxRecDepth 20000 in
theorem gX7_whole_X7_isBed : GoodIn wsX7_whole (wsV RX7 139 RX7 yX7_isBed wsX7_isBed) := goodIn_app (goodIn_of _ (by decide +kernel)) ggX7_whole_X7_isBed
set_option maxRecDepth 20000 in
theorem ggX7_whole_X7_refuse : GoodIn wsX7_whole wsX7_refuse := goodIn_r _ [26, 1, 60, 61, 62, 63, 64, 65, 66, 67, 68, 69, 70, 71, 72, 73, 74, 75] (by decide +kernel) (by decide +kernel)
set_option maxRecDepth 20000 in
theorem gX7_whole_X7_refuse : GoodIn wsX7_whole (wsV RX7 56 RX7 yX7_refuse wsX7_refuse) := goodIn_app (goodIn_of _ (by decide +kernel)) ggX7_whole_X7_refuse
set_option maxRecDepth 20000 in
theorem ggX7_whole_Jx4a65c_get_915e3 : GoodIn wsX7_whole wsJx4a65c_get_915e3 := goodIn_r _ [30, 15, 31, 32, 33, 34, 35, 36, 37, 38, 39, 40, 41, 13, 42, 43, 76, 77, 78] (by decide +kernel) (by decide +kernel)
set_option maxRecDepth 20000 in
theorem gX7_whole_Jx4a65c_get_915e3 : GoodIn wsX7_whole (wsV RX7 68 RJx4a65c yJx4a65c_get_915e3 wsJx4a65c_get_915e3) := goodIn_app (goodIn_of _ (by decide +kernel)) ggX7_whole_Jx4a65c_get_915e3
set_option maxRecDepth 20000 in
theorem ggX7_whole_X7_isRoom : GoodIn wsX7_whole wsX7_isRoom := goodIn_r _ [46] (by decide +kernel) (by decide +kernel)
set_option maxRecDepth 20000 in
theorem gX7_whole_X7_isRoom : GoodIn wsX7_whole (va_wsS RX7 142 yX7_isRoom wsX7_isRoom) := goodIn_app (goodIn_of _ (by decide +kernel)) ggX7_whole_X7_isRoom
set_option maxRecDepth 20000 in
theorem ggX7_whole_X7_mixOf : GoodIn wsX7_whole wsX7_mixOf := goodIn_r _ [49, 50] (by decide +kernel) (by decide +kernel)
set_option maxRecDepth 20000 in
theorem gX7_whole_X7_mixOf : GoodIn wsX7_whole (va_wsS RX7 131 yX7_mixOf wsX7_mixOf) := goodIn_app (goodIn_of _ (by decide +kernel)) ggX7_whole_X7_mixOf
set_option maxRecDepth 20000 in
theorem ggX7_whole_X7_lay : GoodIn wsX7_whole wsX7_lay := goodIn_r _ [53, 54, 55, 8, 56, 57, 58, 59] (by decide +kernel) (by decide +kernel)
set_option maxRecDepth 20000 in
theorem gX7_whole_X7_lay : GoodIn wsX7_whole (va_wsS RX7 146 yX7_lay wsX7_lay) := goodIn_app (goodIn_of _ (by decide +kernel)) ggX7_whole_X7_lay
set_option maxRecDepth 20000 in
theorem ggX7_turn_X7_isBed : GoodIn wsX7_turn wsX7_isBed := goodIn_r _ [8, 2, 9, 10, 11, 12, 13, 14, 15, 16, 7, 17, 39, 40, 41, 42, 43, 44, 45, 46, 47, 48, 49, 50, 51, 52, 53, 54, 55, 56, 57] (by decide +kernel) (by decide +kernel)
set_option maxRecDepth 20000 in
theorem gX7_turn_X7_isBed : GoodIn wsX7_turn (wsV RX7 139 RX7 yX7_isBed wsX7_isBed) := goodIn_app (goodIn_of _ (by decide +kernel)) ggX7_turn_X7_isBed
set_option maxRecDepth 20000 in
theorem ggX7_turn_X7_refuse : GoodIn wsX7_turn wsX7_refuse := goodIn_r _ [21, 1, 39, 40, 41, 42, 43, 44, 45, 46, 47, 48, 49, 50, 51, 52, 53, 54] (by decide +kernel) (by decide +kernel)
set_option maxRecDepth 20000 in
theorem gX7_turn_X7_refuse : GoodIn wsX7_turn (wsV RX7 56 RX7 yX7_refuse wsX7_refuse) := goodIn_app (goodIn_of _ (by decide +kernel)) ggX7_turn_X7_refuse
set_option maxRecDepth 20000 in
theorem ggX7_turn_Jx4a65c_get_915e3 : GoodIn wsX7_turn wsJx4a65c_get_915e3 := goodIn_r _ [25, 14, 26, 27, 28, 29, 30, 31, 32, 33, 34, 35, 36, 12, 37, 38, 55, 56, 57] (by decide +kernel) (by decide +kernel)
set_option maxRecDepth 20000 in
theorem gX7_turn_Jx4a65c_get_915e3 : GoodIn wsX7_turn (wsV RX7 68 RJx4a65c yJx4a65c_get_915e3 wsJx4a65c_get_915e3) := goodIn_app (goodIn_of _ (by decide +kernel)) ggX7_turn_Jx4a65c_get_915e3
set_option maxRecDepth 20000 in
theorem ggX7_cover_X7_isBed : GoodIn wsX7_cover wsX7_isBed := goodIn_r _ [8, 2, 9, 10, 11, 12, 13, 14, 15, 16, 7, 17, 35, 36, 37, 38, 39, 40, 41, 42, 43, 44, 45, 46, 47, 48, 49, 50, 51, 52, 53] (by decide +kernel) (by decide +kernel)
set_option maxRecDepth 20000 in
theorem gX7_cover_X7_isBed : GoodIn wsX7_cover (wsV RX7 139 RX7 yX7_isBed wsX7_isBed) := goodIn_app (goodIn_of _ (by decide +kernel)) ggX7_cover_X7_isBed
set_option maxRecDepth 20000 in
theorem ggX7_cover_Jx4a65c_get_915e3 : GoodIn wsX7_cover wsJx4a65c_get_915e3 := goodIn_r _ [21, 14, 22, 23, 24, 25, 26, 27, 28, 29, 30, 31, 32, 12, 33, 34, 51, 52, 53] (by decide +kernel) (by decide +kernel)
set_option maxRecDepth 20000 in
theorem gX7_cover_Jx4a65c_get_915e3 : GoodIn wsX7_cover (wsV RX7 68 RJx4a65c yJx4a65c_get_915e3 wsJx4a65c_get_915e3) := goodIn_app (goodIn_of _ (by decide +kernel)) ggX7_cover_Jx4a65c_get_915e3
set_option maxRecDepth 20000 in
theorem ggX7_store_X7_isBed : GoodIn wsX7_store wsX7_isBed := goodIn_r _ [11, 2, 12, 13, 14, 15, 16, 17, 18, 19, 10, 20, 106, 107, 108, 109, 110, 111, 112, 113, 114, 115, 116, 117, 118, 119, 120, 121, 122, 123, 124] (by decide +kernel) (by decide +kernel)
set_option maxRecDepth 20000 in
theorem gX7_store_X7_isBed : GoodIn wsX7_store (wsV RX7 139 RX7 yX7_isBed wsX7_isBed) := goodIn_app (goodIn_of _ (by decide +kernel)) ggX7_store_X7_isBed
set_option maxRecDepth 20000 in
theorem ggX7_store_X7_refuse : GoodIn wsX7_store wsX7_refuse := goodIn_r _ [24, 1, 106, 107, 108, 109, 110, 111, 112, 113, 114, 115, 116, 117, 118, 119, 120, 121] (by decide +kernel) (by decide +kernel)
set_option maxRecDepth 20000 in
theorem gX7_store_X7_refuse : GoodIn wsX7_store (wsV RX7 56 RX7 yX7_refuse wsX7_refuse) := goodIn_app (goodIn_of _ (by decide +kernel)) ggX7_store_X7_refuse
set_option maxRecDepth 20000 in
theorem ggX7_store_Jx4a65c_get_915e3 : GoodIn wsX7_store wsJx4a65c_get_915e3 := goodIn_r _ [28, 17, 29, 30, 31, 32, 33, 34, 35, 36, 37, 38, 39, 15, 40, 41, 122, 123, 124] (by decide +kernel) (by decide +kernel)
set_option maxRecDepth 20000 in
theorem gX7_store_Jx4a65c_get_915e3 : GoodIn wsX7_store (wsV RX7 68 RJx4a65c yJx4a65c_get_915e3 wsJx4a65c_get_915e3) := goodIn_app (goodIn_of _ (by decide +kernel)) ggX7_store_Jx4a65c_get_915e3
set_option maxRecDepth 20000 in
theorem ggX7_store_X7_sum : GoodIn wsX7_store wsX7_sum := goodIn_r _ [44] (by decide +kernel) (by decide +kernel)
set_option maxRecDepth 20000 in
theorem gX7_store_X7_sum : GoodIn wsX7_store (va_wsS RX7 157 yX7_sum wsX7_sum) := goodIn_app (goodIn_of _ (by decide +kernel)) ggX7_store_X7_sum
set_option maxRecDepth 20000 in
theorem ggX7_store_Jx4a65c_size_8abf5 : GoodIn wsX7_store wsJx4a65c_size_8abf5 := goodIn_r _ [16, 17, 122, 123, 124] (by decide +kernel) (by decide +kernel)
set_option maxRecDepth 20000 in
theorem gX7_store_Jx4a65c_size_8abf5 : GoodIn wsX7_store (wsV RX7 44 RJx4a65c yJx4a65c_size_8abf5 wsJx4a65c_size_8abf5) := goodIn_app (goodIn_of _ (by decide +kernel)) ggX7_store_Jx4a65c_size_8abf5
set_option maxRecDepth 20000 in
theorem ggX7_store_X7_forget : GoodIn wsX7_store wsX7_forget := goodIn_r _ [48, 49, 106, 107, 108, 109, 110, 111, 112, 113, 114, 115, 116, 117, 118, 119, 120, 121] (by decide +kernel) (by decide +kernel)
set_option maxRecDepth 20000 in
theorem gX7_store_X7_forget : GoodIn wsX7_store (wsV RX7 160 RX7 yX7_forget wsX7_forget) := goodIn_app (goodIn_of _ (by decide +kernel)) ggX7_store_X7_forget
set_option maxRecDepth 20000 in
theorem ggX7_store_Jx4a65c_add_9ea2d : GoodIn wsX7_store wsJx4a65c_add_9ea2d := goodIn_r _ [53, 54, 55, 41, 17, 56, 57, 58, 15, 59, 60, 61, 62, 63, 64, 65, 66, 67, 68, 69, 70, 71, 72, 73, 74, 75, 76, 77, 78, 79, 80, 81, 82, 83, 84, 85, 86, 87, 88, 89, 90, 91, 92, 93, 94, 95, 96, 97, 98, 99, 100, 101, 102, 122, 123, 124] (by decide +kernel) (by decide +kernel)
set_option maxRecDepth 20000 in
theorem gX7_store_Jx4a65c_add_9ea2d : GoodIn wsX7_store (wsV RX7 60 RJx4a65c yJx4a65c_add_9ea2d wsJx4a65c_add_9ea2d) := goodIn_app (goodIn_of _ (by decide +kernel)) ggX7_store_Jx4a65c_add_9ea2d
set_option maxRecDepth 20000 in
theorem ggX7_store_X7_empty : GoodIn wsX7_store wsX7_empty := goodIn_r _ [105] (by decide +kernel) (by decide +kernel)
set_option maxRecDepth 20000 in
theorem gX7_store_X7_empty : GoodIn wsX7_store (va_wsS RX7 153 yX7_empty wsX7_empty) := goodIn_app (goodIn_of _ (by decide +kernel)) ggX7_store_X7_empty
set_option maxRecDepth 20000 in
theorem ggX7_scoreOf_Jx4a65c_size_8abf5 : GoodIn wsX7_scoreOf wsJx4a65c_size_8abf5 := goodIn_r _ [11, 12, 50, 51, 52] (by decide +kernel) (by decide +kernel)
set_option maxRecDepth 20000 in
theorem gX7_scoreOf_Jx4a65c_size_8abf5 : GoodIn wsX7_scoreOf (wsV RX7 44 RJx4a65c yJx4a65c_size_8abf5 wsJx4a65c_size_8abf5) := goodIn_app (goodIn_of _ (by decide +kernel)) ggX7_scoreOf_Jx4a65c_size_8abf5
set_option maxRecDepth 20000 in
theorem ggX7_scoreOf_Jx4a65c_get_915e3 : GoodIn wsX7_scoreOf wsJx4a65c_get_915e3 := goodIn_r _ [16, 12, 17, 18, 19, 20, 21, 22, 23, 24, 25, 26, 27, 10, 28, 29, 50, 51, 52] (by decide +kernel) (by decide +kernel)
set_option maxRecDepth 20000 in
theorem gX7_scoreOf_Jx4a65c_get_915e3 : GoodIn wsX7_scoreOf (wsV RX7 68 RJx4a65c yJx4a65c_get_915e3 wsJx4a65c_get_915e3) := goodIn_app (goodIn_of _ (by decide +kernel)) ggX7_scoreOf_Jx4a65c_get_915e3
set_option maxRecDepth 20000 in
theorem ggX7_scoreOf_X7_fault : GoodIn wsX7_scoreOf wsX7_fault := goodIn_r _ [33, 3, 4, 5, 6] (by decide +kernel) (by decide +kernel)
set_option maxRecDepth 20000 in
theorem gX7_scoreOf_X7_fault : GoodIn wsX7_scoreOf (va_wsS RX7 164 yX7_fault wsX7_fault) := goodIn_app (goodIn_of _ (by decide +kernel)) ggX7_scoreOf_X7_fault
set_option maxRecDepth 20000 in
theorem ggX7_causeOf_X7_fault : GoodIn wsX7_causeOf wsX7_fault := goodIn_r _ [4, 5, 6, 7, 8] (by decide +kernel) (by decide +kernel)
set_option maxRecDepth 20000 in
theorem gX7_causeOf_X7_fault : GoodIn wsX7_causeOf (va_wsS RX7 164 yX7_fault wsX7_fault) := goodIn_app (goodIn_of _ (by decide +kernel)) ggX7_causeOf_X7_fault
set_option maxRecDepth 20000 in
theorem ggX7_isTaster_X7_is : GoodIn wsX7_isTaster wsX7_is := goodIn_r _ [4] (by decide +kernel) (by decide +kernel)
set_option maxRecDepth 20000 in
theorem gX7_isTaster_X7_is : GoodIn wsX7_isTaster (va_wsS RX7 48 yX7_is wsX7_is) := goodIn_app (goodIn_of _ (by decide +kernel)) ggX7_isTaster_X7_is
set_option maxRecDepth 20000 in
theorem ggX7_bias_X7_isTaster : GoodIn wsX7_bias wsX7_isTaster := goodIn_r _ [6, 7, 8, 5, 9] (by decide +kernel) (by decide +kernel)
set_option maxRecDepth 20000 in
theorem gX7_bias_X7_isTaster : GoodIn wsX7_bias (va_wsS RX7 167 yX7_isTaster wsX7_isTaster) := goodIn_app (goodIn_of _ (by decide +kernel)) ggX7_bias_X7_isTaster
set_option maxRecDepth 20000 in
theorem ggX7_bias_X7_refuse : GoodIn wsX7_bias wsX7_refuse := goodIn_r _ [13, 1, 14, 15, 16, 17, 18, 19, 20, 21, 22, 23, 24, 25, 26, 27, 28, 29] (by decide +kernel) (by decide +kernel)
set_option maxRecDepth 20000 in
theorem gX7_bias_X7_refuse : GoodIn wsX7_bias (wsV RX7 56 RX7 yX7_refuse wsX7_refuse) := goodIn_app (goodIn_of _ (by decide +kernel)) ggX7_bias_X7_refuse
set_option maxRecDepth 20000 in
theorem ggX7_bias_X7_is : GoodIn wsX7_bias wsX7_is := goodIn_r _ [9] (by decide +kernel) (by decide +kernel)
set_option maxRecDepth 20000 in
theorem gX7_bias_X7_is : GoodIn wsX7_bias (va_wsS RX7 48 yX7_is wsX7_is) := goodIn_app (goodIn_of _ (by decide +kernel)) ggX7_bias_X7_is
set_option maxRecDepth 20000 in
theorem ggX7_cup_X7_isLot : GoodIn wsX7_cup wsX7_isLot := goodIn_r _ [10, 2, 11, 12, 13, 14, 15, 16, 17, 18, 9, 19, 59, 60, 61, 62, 63, 64, 65, 66, 67, 68, 69, 70, 71, 72, 73, 74, 75, 76, 77] (by decide +kernel) (by decide +kernel)
set_option maxRecDepth 20000 in
theorem gX7_cup_X7_isLot : GoodIn wsX7_cup (wsV RX7 170 RX7 yX7_isLot wsX7_isLot) := goodIn_app (goodIn_of _ (by decide +kernel)) ggX7_cup_X7_isLot
set_option maxRecDepth 20000 in
theorem ggX7_cup_X7_isTaster : GoodIn wsX7_cup wsX7_isTaster := goodIn_r _ [22, 17, 18, 9, 19] (by decide +kernel) (by decide +kernel)
set_option maxRecDepth 20000 in
theorem gX7_cup_X7_isTaster : GoodIn wsX7_cup (va_wsS RX7 167 yX7_isTaster wsX7_isTaster) := goodIn_app (goodIn_of _ (by decide +kernel)) ggX7_cup_X7_isTaster
set_option maxRecDepth 20000 in
theorem ggX7_cup_X7_refuse : GoodIn wsX7_cup wsX7_refuse := goodIn_r _ [26, 1, 59, 60, 61, 62, 63, 64, 65, 66, 67, 68, 69, 70, 71, 72, 73, 74] (by decide +kernel) (by decide +kernel)
set_option maxRecDepth 20000 in
theorem gX7_cup_X7_refuse : GoodIn wsX7_cup (wsV RX7 56 RX7 yX7_refuse wsX7_refuse) := goodIn_app (goodIn_of _ (by decide +kernel)) ggX7_cup_X7_refuse
set_option maxRecDepth 20000 in
theorem ggX7_cup_Jx4a65c_get_915e3 : GoodIn wsX7_cup wsJx4a65c_get_915e3 := goodIn_r _ [30, 16, 31, 32, 33, 34, 35, 36, 37, 38, 39, 40, 41, 14, 42, 43, 75, 76, 77] (by decide +kernel) (by decide +kernel)
set_option maxRecDepth 20000 in
theorem gX7_cup_Jx4a65c_get_915e3 : GoodIn wsX7_cup (wsV RX7 68 RJx4a65c yJx4a65c_get_915e3 wsJx4a65c_get_915e3) := goodIn_app (goodIn_of _ (by decide +kernel)) ggX7_cup_Jx4a65c_get_915e3
set_option maxRecDepth 20000 in
theorem ggX7_cup_X7_isIn : GoodIn wsX7_cup wsX7_isIn := goodIn_r _ [46] (by decide +kernel) (by decide +kernel)
set_option maxRecDepth 20000 in
theorem gX7_cup_X7_isIn : GoodIn wsX7_cup (va_wsS RX7 173 yX7_isIn wsX7_isIn) := goodIn_app (goodIn_of _ (by decide +kernel)) ggX7_cup_X7_isIn
set_option maxRecDepth 20000 in
theorem ggX7_cup_X7_scoreOf : GoodIn wsX7_cup wsX7_scoreOf := goodIn_r _ [50, 51, 3, 52, 53, 54, 55, 11, 12, 13, 14, 15, 16, 27, 28, 29, 30, 31, 32, 33, 34, 35, 36, 37, 38, 39, 40, 41, 42, 43, 56, 57, 9, 58, 59, 60, 61, 62, 63, 64, 65, 66, 67, 68, 69, 70, 71, 72, 73, 74, 75, 76, 77] (by decide +kernel) (by decide +kernel)
set_option maxRecDepth 20000 in
theorem gX7_cup_X7_scoreOf : GoodIn wsX7_cup (wsV RX7 177 RX7 yX7_scoreOf wsX7_scoreOf) := goodIn_app (goodIn_of _ (by decide +kernel)) ggX7_cup_X7_scoreOf
set_option maxRecDepth 20000 in
theorem ggX7_blendOf_X7_mean : GoodIn wsX7_blendOf wsX7_mean := goodIn_r _ [14] (by decide +kernel) (by decide +kernel)
set_option maxRecDepth 20000 in
theorem gX7_blendOf_X7_mean : GoodIn wsX7_blendOf (va_wsS RX7 52 yX7_mean wsX7_mean) := goodIn_app (goodIn_of _ (by decide +kernel)) ggX7_blendOf_X7_mean
set_option maxRecDepth 20000 in
theorem ggX7_blendOf_X7_come : GoodIn wsX7_blendOf wsX7_come := goodIn_r _ [17, 11, 12, 13, 14] (by decide +kernel) (by decide +kernel)
set_option maxRecDepth 20000 in
theorem gX7_blendOf_X7_come : GoodIn wsX7_blendOf (va_wsS RX7 135 yX7_come wsX7_come) := goodIn_app (goodIn_of _ (by decide +kernel)) ggX7_blendOf_X7_come
set_option maxRecDepth 20000 in
theorem ggX7_canBlend_X7_isIn : GoodIn wsX7_canBlend wsX7_isIn := goodIn_r _ [4] (by decide +kernel) (by decide +kernel)
set_option maxRecDepth 20000 in
theorem gX7_canBlend_X7_isIn : GoodIn wsX7_canBlend (va_wsS RX7 173 yX7_isIn wsX7_isIn) := goodIn_app (goodIn_of _ (by decide +kernel)) ggX7_canBlend_X7_isIn
set_option maxRecDepth 20000 in
theorem ggX7_blend_X7_isLot : GoodIn wsX7_blend wsX7_isLot := goodIn_r _ [8, 2, 9, 10, 11, 12, 13, 14, 15, 16, 7, 17, 72, 73, 74, 75, 76, 77, 78, 79, 80, 81, 82, 83, 84, 85, 86, 87, 88, 89, 90] (by decide +kernel) (by decide +kernel)
set_option maxRecDepth 20000 in
theorem gX7_blend_X7_isLot : GoodIn wsX7_blend (wsV RX7 170 RX7 yX7_isLot wsX7_isLot) := goodIn_app (goodIn_of _ (by decide +kernel)) ggX7_blend_X7_isLot
set_option maxRecDepth 20000 in
theorem ggX7_blend_X7_refuse : GoodIn wsX7_blend wsX7_refuse := goodIn_r _ [21, 1, 72, 73, 74, 75, 76, 77, 78, 79, 80, 81, 82, 83, 84, 85, 86, 87] (by decide +kernel) (by decide +kernel)
set_option maxRecDepth 20000 in
theorem gX7_blend_X7_refuse : GoodIn wsX7_blend (wsV RX7 56 RX7 yX7_refuse wsX7_refuse) := goodIn_app (goodIn_of _ (by decide +kernel)) ggX7_blend_X7_refuse
set_option maxRecDepth 20000 in
theorem ggX7_blend_Jx4a65c_get_915e3 : GoodIn wsX7_blend wsJx4a65c_get_915e3 := goodIn_r _ [25, 14, 26, 27, 28, 29, 30, 31, 32, 33, 34, 35, 36, 12, 37, 38, 88, 89, 90] (by decide +kernel) (by decide +kernel)
set_option maxRecDepth 20000 in
theorem gX7_blend_Jx4a65c_get_915e3 : GoodIn wsX7_blend (wsV RX7 68 RJx4a65c yJx4a65c_get_915e3 wsJx4a65c_get_915e3) := goodIn_app (goodIn_of _ (by decide +kernel)) ggX7_blend_Jx4a65c_get_915e3
set_option maxRecDepth 20000 in
theorem ggX7_blend_X7_canBlend : GoodIn wsX7_blend wsX7_canBlend := goodIn_r _ [41, 42, 43, 7, 44] (by decide +kernel) (by decide +kernel)
set_option maxRecDepth 20000 in
theorem gX7_blend_X7_canBlend : GoodIn wsX7_blend (va_wsS RX7 184 yX7_canBlend wsX7_canBlend) := goodIn_app (goodIn_of _ (by decide +kernel)) ggX7_blend_X7_canBlend
set_option maxRecDepth 20000 in
theorem ggX7_blend_X7_blendOf : GoodIn wsX7_blend wsX7_blendOf := goodIn_r _ [47, 48, 49, 50, 51, 52, 3, 53, 54, 55, 56, 57, 58, 7, 59, 60, 61, 62] (by decide +kernel) (by decide +kernel)
set_option maxRecDepth 20000 in
theorem gX7_blend_X7_blendOf : GoodIn wsX7_blend (va_wsS RX7 188 yX7_blendOf wsX7_blendOf) := goodIn_app (goodIn_of _ (by decide +kernel)) ggX7_blend_X7_blendOf
set_option maxRecDepth 20000 in
theorem ggX7_blend_Jx4a65c_set_bcc79 : GoodIn wsX7_blend wsJx4a65c_set_bcc79 := goodIn_r _ [66, 14, 38, 26, 27, 28, 29, 30, 31, 32, 33, 34, 35, 36, 12, 37, 88, 89, 90] (by decide +kernel) (by decide +kernel)
set_option maxRecDepth 20000 in
theorem gX7_blend_Jx4a65c_set_bcc79 : GoodIn wsX7_blend (wsV RX7 192 RJx4a65c yJx4a65c_set_bcc79 wsJx4a65c_set_bcc79) := goodIn_app (goodIn_of _ (by decide +kernel)) ggX7_blend_Jx4a65c_set_bcc79
set_option maxRecDepth 20000 in
theorem ggX7_blend_X7_forget : GoodIn wsX7_blend wsX7_forget := goodIn_r _ [70, 71, 72, 73, 74, 75, 76, 77, 78, 79, 80, 81, 82, 83, 84, 85, 86, 87] (by decide +kernel) (by decide +kernel)
set_option maxRecDepth 20000 in
theorem gX7_blend_X7_forget : GoodIn wsX7_blend (wsV RX7 160 RX7 yX7_forget wsX7_forget) := goodIn_app (goodIn_of _ (by decide +kernel)) ggX7_blend_X7_forget
set_option maxRecDepth 20000 in
theorem ggX7_brings_Jx4a65c_get_915e3 : GoodIn wsX7_brings wsJx4a65c_get_915e3 := goodIn_r _ [7, 8, 9, 10, 11, 12, 13, 14, 15, 16, 17, 18, 19, 6, 20, 21, 47, 48, 49] (by decide +kernel) (by decide +kernel)
set_option maxRecDepth 20000 in
theorem gX7_brings_Jx4a65c_get_915e3 : GoodIn wsX7_brings (wsV RX7 68 RJx4a65c yJx4a65c_get_915e3 wsJx4a65c_get_915e3) := goodIn_app (goodIn_of _ (by decide +kernel)) ggX7_brings_Jx4a65c_get_915e3
set_option maxRecDepth 20000 in
theorem ggX7_brings_X7_gradeOf : GoodIn wsX7_brings wsX7_gradeOf := goodIn_r _ [26, 27, 31, 32, 33, 34, 35, 36, 37, 38, 39, 40, 41, 42, 43, 44, 45, 46] (by decide +kernel) (by decide +kernel)
set_option maxRecDepth 20000 in
theorem gX7_brings_X7_gradeOf : GoodIn wsX7_brings (wsV RX7 196 RX7 yX7_gradeOf wsX7_gradeOf) := goodIn_app (goodIn_of _ (by decide +kernel)) ggX7_brings_X7_gradeOf
set_option maxRecDepth 20000 in
theorem ggX7_brings_X7_sum : GoodIn wsX7_brings wsX7_sum := goodIn_r _ [30] (by decide +kernel) (by decide +kernel)
set_option maxRecDepth 20000 in
theorem gX7_brings_X7_sum : GoodIn wsX7_brings (va_wsS RX7 157 yX7_sum wsX7_sum) := goodIn_app (goodIn_of _ (by decide +kernel)) ggX7_brings_X7_sum
set_option maxRecDepth 20000 in
theorem ggX7_share_Jx4a65c_get_915e3 : GoodIn wsX7_share wsJx4a65c_get_915e3 := goodIn_r _ [9, 10, 11, 12, 13, 14, 15, 16, 17, 18, 19, 20, 21, 8, 22, 23, 53, 54, 55] (by decide +kernel) (by decide +kernel)
set_option maxRecDepth 20000 in
theorem gX7_share_Jx4a65c_get_915e3 : GoodIn wsX7_share (wsV RX7 68 RJx4a65c yJx4a65c_get_915e3 wsJx4a65c_get_915e3) := goodIn_app (goodIn_of _ (by decide +kernel)) ggX7_share_Jx4a65c_get_915e3
set_option maxRecDepth 20000 in
theorem ggX7_share_X7_brings : GoodIn wsX7_share wsX7_brings := goodIn_r _ [28, 1, 2, 5, 6, 7, 8, 9, 10, 11, 12, 13, 14, 15, 16, 17, 18, 19, 20, 21, 22, 23, 29, 30, 31, 27, 32, 33, 34, 35, 36, 37, 38, 39, 40, 41, 42, 43, 44, 45, 46, 47, 48, 49, 50, 51, 52, 53, 54, 55] (by decide +kernel) (by decide +kernel)
set_option maxRecDepth 20000 in
theorem gX7_share_X7_brings : GoodIn wsX7_share (wsV RX7 199 RX7 yX7_brings wsX7_brings) := goodIn_app (goodIn_of _ (by decide +kernel)) ggX7_share_X7_brings
set_option maxRecDepth 20000 in
theorem ggX7_canSell_Jx4a65c_get_915e3 : GoodIn wsX7_canSell wsJx4a65c_get_915e3 := goodIn_r _ [7, 8, 9, 10, 11, 12, 13, 14, 15, 16, 17, 18, 19, 6, 20, 21, 47, 48, 49] (by decide +kernel) (by decide +kernel)
set_option maxRecDepth 20000 in
theorem gX7_canSell_Jx4a65c_get_915e3 : GoodIn wsX7_canSell (wsV RX7 68 RJx4a65c yJx4a65c_get_915e3 wsJx4a65c_get_915e3) := goodIn_app (goodIn_of _ (by decide +kernel)) ggX7_canSell_Jx4a65c_get_915e3
set_option maxRecDepth 20000 in
theorem ggX7_canSell_X7_isIn : GoodIn wsX7_canSell wsX7_isIn := goodIn_r _ [25] (by decide +kernel) (by decide +kernel)
set_option maxRecDepth 20000 in
theorem gX7_canSell_X7_isIn : GoodIn wsX7_canSell (va_wsS RX7 173 yX7_isIn wsX7_isIn) := goodIn_app (goodIn_of _ (by decide +kernel)) ggX7_canSell_X7_isIn
set_option maxRecDepth 20000 in
theorem ggX7_canSell_X7_gradeOf : GoodIn wsX7_canSell wsX7_gradeOf := goodIn_r _ [29, 30, 31, 32, 33, 34, 35, 36, 37, 38, 39, 40, 41, 42, 43, 44, 45, 46] (by decide +kernel) (by decide +kernel)
set_option maxRecDepth 20000 in
theorem gX7_canSell_X7_gradeOf : GoodIn wsX7_canSell (wsV RX7 196 RX7 yX7_gradeOf wsX7_gradeOf) := goodIn_app (goodIn_of _ (by decide +kernel)) ggX7_canSell_X7_gradeOf
set_option maxRecDepth 20000 in
theorem ggX7_sell_X7_isLot : GoodIn wsX7_sell wsX7_isLot := goodIn_r _ [11, 6, 12, 13, 14, 15, 16, 17, 18, 19, 10, 20, 67, 68, 69, 70, 71, 72, 73, 74, 75, 76, 77, 78, 79, 80, 81, 82, 83, 84, 85] (by decide +kernel) (by decide +kernel)
set_option maxRecDepth 20000 in
theorem gX7_sell_X7_isLot : GoodIn wsX7_sell (wsV RX7 170 RX7 yX7_isLot wsX7_isLot) := goodIn_app (goodIn_of _ (by decide +kernel)) ggX7_sell_X7_isLot
set_option maxRecDepth 20000 in
theorem ggX7_sell_X7_refuse : GoodIn wsX7_sell wsX7_refuse := goodIn_r _ [24, 1, 67, 68, 69, 70, 71, 72, 73, 74, 75, 76, 77, 78, 79, 80, 81, 82] (by decide +kernel) (by decide +kernel)
set_option maxRecDepth 20000 in
theorem gX7_sell_X7_refuse : GoodIn wsX7_sell (wsV RX7 56 RX7 yX7_refuse wsX7_refuse) := goodIn_app (goodIn_of _ (by decide +kernel)) ggX7_sell_X7_refuse
set_option maxRecDepth 20000 in
theorem ggX7_sell_X7_is : GoodIn wsX7_sell wsX7_is := goodIn_r _ [20] (by decide +kernel) (by decide +kernel)
set_option maxRecDepth 20000 in
theorem gX7_sell_X7_is : GoodIn wsX7_sell (va_wsS RX7 48 yX7_is wsX7_is) := goodIn_app (goodIn_of _ (by decide +kernel)) ggX7_sell_X7_is
set_option maxRecDepth 20000 in
theorem ggX7_sell_X7_canSell : GoodIn wsX7_sell wsX7_canSell := goodIn_r _ [28, 6, 3, 29, 30, 31, 15, 32, 17, 33, 34, 35, 36, 37, 38, 39, 40, 41, 42, 43, 44, 45, 46, 47, 10, 48, 49, 50, 51, 52, 53, 67, 68, 69, 70, 71, 72, 73, 74, 75, 76, 77, 78, 79, 80, 81, 82, 83, 84, 85] (by decide +kernel) (by decide +kernel)
set_option maxRecDepth 20000 in
theorem gX7_sell_X7_canSell : GoodIn wsX7_sell (wsV RX7 207 RX7 yX7_canSell wsX7_canSell) := goodIn_app (goodIn_of _ (by decide +kernel)) ggX7_sell_X7_canSell
set_option maxRecDepth 20000 in
theorem ggX7_sell_X7_brings : GoodIn wsX7_sell wsX7_brings := goodIn_r _ [57, 6, 3, 29, 30, 31, 15, 32, 17, 33, 34, 35, 36, 37, 38, 39, 40, 41, 42, 43, 44, 45, 49, 50, 51, 10, 52, 53, 58, 59, 60, 67, 68, 69, 70, 71, 72, 73, 74, 75, 76, 77, 78, 79, 80, 81, 82, 83, 84, 85] (by decide +kernel) (by decide +kernel)
set_option maxRecDepth 20000 in
theorem gX7_sell_X7_brings : GoodIn wsX7_sell (wsV RX7 199 RX7 yX7_brings wsX7_brings) := goodIn_app (goodIn_of _ (by decide +kernel)) ggX7_sell_X7_brings
set_option maxRecDepth 20000 in
theorem ggX7_sell_Jx4a65c_size_8abf5 : GoodIn wsX7_sell wsJx4a65c_size_8abf5 := goodIn_r _ [16, 17, 83, 84, 85] (by decide +kernel) (by decide +kernel)
set_option maxRecDepth 20000 in
theorem gX7_sell_Jx4a65c_size_8abf5 : GoodIn wsX7_sell (wsV RX7 44 RJx4a65c yJx4a65c_size_8abf5 wsJx4a65c_size_8abf5) := goodIn_app (goodIn_of _ (by decide +kernel)) ggX7_sell_Jx4a65c_size_8abf5
set_option maxRecDepth 20000 in
theorem ggX7_sell_X7_share : GoodIn wsX7_sell wsX7_share := goodIn_r _ [64, 6, 3, 65, 66, 29, 30, 31, 15, 32, 17, 33, 34, 35, 36, 37, 38, 39, 40, 41, 42, 43, 44, 45, 54, 55, 56, 10, 57, 49, 50, 51, 52, 53, 58, 59, 60, 67, 68, 69, 70, 71, 72, 73, 74, 75, 76, 77, 78, 79, 80, 81, 82, 83, 84, 85] (by decide +kernel) (by decide +kernel)
set_option maxRecDepth 20000 in
theorem gX7_sell_X7_share : GoodIn wsX7_sell (wsV RX7 210 RX7 yX7_share wsX7_share) := goodIn_app (goodIn_of _ (by decide +kernel)) ggX7_sell_X7_share
set_option maxRecDepth 20000 in
theorem ggX7_sell_Jx4a65c_get_915e3 : GoodIn wsX7_sell wsJx4a65c_get_915e3 := goodIn_r _ [32, 17, 33, 34, 35, 36, 37, 38, 39, 40, 41, 42, 43, 15, 44, 45, 83, 84, 85] (by decide +kernel) (by decide +kernel)
set_option maxRecDepth 20000 in
theorem gX7_sell_Jx4a65c_get_915e3 : GoodIn wsX7_sell (wsV RX7 68 RJx4a65c yJx4a65c_get_915e3 wsJx4a65c_get_915e3) := goodIn_app (goodIn_of _ (by decide +kernel)) ggX7_sell_Jx4a65c_get_915e3
set_option maxRecDepth 20000 in
theorem ggX7_ofFarmNow_Jx4a65c_get_915e3 : GoodIn wsX7_ofFarmNow wsJx4a65c_get_915e3 := goodIn_r _ [8, 9, 10, 11, 12, 13, 14, 15, 16, 17, 18, 19, 20, 7, 21, 22, 75, 76, 77] (by decide +kernel) (by decide +kernel)
set_option maxRecDepth 20000 in
theorem gX7_ofFarmNow_Jx4a65c_get_915e3 : GoodIn wsX7_ofFarmNow (wsV RX7 68 RJx4a65c yJx4a65c_get_915e3 wsJx4a65c_get_915e3) := goodIn_app (goodIn_of _ (by decide +kernel)) ggX7_ofFarmNow_Jx4a65c_get_915e3
set_option maxRecDepth 20000 in
theorem ggX7_ofFarmNow_Jx4a65c_iterator_32c93 : GoodIn wsX7_ofFarmNow wsJx4a65c_iterator_32c93 := goodIn_r _ [26, 27, 28, 29, 30, 31, 32, 33, 34, 35, 36, 37, 38, 39, 40, 78, 79, 80, 81, 75, 76, 77] (by decide +kernel) (by decide +kernel)
set_option maxRecDepth 20000 in
theorem gX7_ofFarmNow_Jx4a65c_iterator_32c93 : GoodIn wsX7_ofFarmNow (wsV RX7 92 RJx4a65c yJx4a65c_iterator_32c93 wsJx4a65c_iterator_32c93) := goodIn_app (goodIn_of _ (by decide +kernel)) ggX7_ofFarmNow_Jx4a65c_iterator_32c93
set_option maxRecDepth 20000 in
theorem ggX7_ofFarmNow_Jx35411_hasNext_aae02 : GoodIn wsX7_ofFarmNow wsJx35411_hasNext_aae02 := goodIn_r _ [44, 45, 33, 78, 79, 80, 81, 75, 76, 77] (by decide +kernel) (by decide +kernel)
set_option maxRecDepth 20000 in
theorem gX7_ofFarmNow_Jx35411_hasNext_aae02_f96Jx35411 : GoodIn wsX7_ofFarmNow (va_wsF RX7 96 RJx35411 ⟨"java/util/Iterator", "hasNext", "()Z"⟩ yJx35411_hasNext_aae02 wsJx35411_hasNext_aae02) := goodIn_app (goodIn_of _ (by decide +kernel)) ggX7_ofFarmNow_Jx35411_hasNext_aae02
set_option maxRecDepth 20000 in
theorem ggX7_ofFarmNow_Jx35411_next_0502b : GoodIn wsX7_ofFarmNow wsJx35411_next_0502b := goodIn_r _ [49, 45, 33, 50, 37, 51, 52, 53, 29, 54, 38, 39, 40, 78, 79, 80, 81, 75, 76, 77] (by decide +kernel) (by decide +kernel)
set_option maxRecDepth 20000 in
theorem gX7_ofFarmNow_Jx35411_next_0502b_f102Jx35411 : GoodIn wsX7_ofFarmNow (va_wsF RX7 102 RJx35411 ⟨"java/util/Iterator", "next", "()Ljava/lang/Object;"⟩ yJx35411_next_0502b wsJx35411_next_0502b) := goodIn_app (goodIn_of _ (by decide +kernel)) ggX7_ofFarmNow_Jx35411_next_0502b
set_option maxRecDepth 20000 in
theorem ggX7_ofFarmNow_X7_isIn : GoodIn wsX7_ofFarmNow wsX7_isIn := goodIn_r _ [58] (by decide +kernel) (by decide +kernel)
set_option maxRecDepth 20000 in
theorem gX7_ofFarmNow_X7_isIn : GoodIn wsX7_ofFarmNow (va_wsS RX7 173 yX7_isIn wsX7_isIn) := goodIn_app (goodIn_of _ (by decide +kernel)) ggX7_ofFarmNow_X7_isIn
set_option maxRecDepth 20000 in
theorem ggX7_ofFarm_X7_isFarm : GoodIn wsX7_ofFarm wsX7_isFarm := goodIn_r _ [6, 7, 8, 9, 10, 11, 12, 13, 14, 15, 5, 16, 79, 80, 81, 82, 83, 84, 85, 86, 87, 88, 89, 90, 91, 92, 93, 94, 95, 96, 97] (by decide +kernel) (by decide +kernel)
set_option maxRecDepth 20000 in
theorem gX7_ofFarm_X7_isFarm : GoodIn wsX7_ofFarm (wsV RX7 64 RX7 yX7_isFarm wsX7_isFarm) := goodIn_app (goodIn_of _ (by decide +kernel)) ggX7_ofFarm_X7_isFarm
set_option maxRecDepth 20000 in
theorem ggX7_ofFarm_X7_refuse : GoodIn wsX7_ofFarm wsX7_refuse := goodIn_r _ [20, 1, 79, 80, 81, 82, 83, 84, 85, 86, 87, 88, 89, 90, 91, 92, 93, 94] (by decide +kernel) (by decide +kernel)
set_option maxRecDepth 20000 in
theorem gX7_ofFarm_X7_refuse : GoodIn wsX7_ofFarm (wsV RX7 56 RX7 yX7_refuse wsX7_refuse) := goodIn_app (goodIn_of _ (by decide +kernel)) ggX7_ofFarm_X7_refuse
set_option maxRecDepth 20000 in
theorem ggX7_ofFarm_X7_is : GoodIn wsX7_ofFarm wsX7_is := goodIn_r _ [16] (by decide +kernel) (by decide +kernel)
set_option maxRecDepth 20000 in
theorem gX7_ofFarm_X7_is : GoodIn wsX7_ofFarm (va_wsS RX7 48 yX7_is wsX7_is) := goodIn_app (goodIn_of _ (by decide +kernel)) ggX7_ofFarm_X7_is
set_option maxRecDepth 20000 in
theorem ggX7_ofFarm_X7_ofFarmNow : GoodIn wsX7_ofFarm wsX7_ofFarmNow := goodIn_r _ [24, 7, 25, 26, 27, 28, 29, 11, 30, 13, 31, 32, 33, 34, 35, 36, 37, 38, 39, 40, 41, 42, 43, 44, 45, 46, 47, 48, 49, 50, 51, 52, 53, 54, 55, 56, 57, 58, 59, 60, 61, 62, 63, 64, 65, 66, 67, 68, 69, 70, 71, 72, 73, 74, 75, 76, 77, 5, 78, 79, 80, 81, 82, 83, 84, 85, 86, 87, 88, 89, 90, 91, 92, 93, 94, 95, 96, 97, 98, 99, 100, 101] (by decide +kernel) (by decide +kernel)
set_option maxRecDepth 20000 in
theorem gX7_ofFarm_X7_ofFarmNow : GoodIn wsX7_ofFarm (wsV RX7 217 RX7 yX7_ofFarmNow wsX7_ofFarmNow) := goodIn_app (goodIn_of _ (by decide +kernel)) ggX7_ofFarm_X7_ofFarmNow
set_option maxRecDepth 20000 in
theorem ggX7_ofBasket_X7_isBasket : GoodIn wsX7_ofBasket wsX7_isBasket := goodIn_r _ [8, 2, 9, 10, 11, 12, 13, 14, 15, 16, 7, 17, 39, 40, 41, 42, 43, 44, 45, 46, 47, 48, 49, 50, 51, 52, 53, 54, 55, 56, 57] (by decide +kernel) (by decide +kernel)
set_option maxRecDepth 20000 in
theorem gX7_ofBasket_X7_isBasket : GoodIn wsX7_ofBasket (wsV RX7 125 RX7 yX7_isBasket wsX7_isBasket) := goodIn_app (goodIn_of _ (by decide +kernel)) ggX7_ofBasket_X7_isBasket
set_option maxRecDepth 20000 in
theorem ggX7_ofBasket_X7_refuse : GoodIn wsX7_ofBasket wsX7_refuse := goodIn_r _ [21, 1, 39, 40, 41, 42, 43, 44, 45, 46, 47, 48, 49, 50, 51, 52, 53, 54] (by decide +kernel) (by decide +kernel)
set_option maxRecDepth 20000 in
theorem gX7_ofBasket_X7_refuse : GoodIn wsX7_ofBasket (wsV RX7 56 RX7 yX7_refuse wsX7_refuse) := goodIn_app (goodIn_of _ (by decide +kernel)) ggX7_ofBasket_X7_refuse
set_option maxRecDepth 20000 in
theorem ggX7_ofBasket_X7_is : GoodIn wsX7_ofBasket wsX7_is := goodIn_r _ [17] (by decide +kernel) (by decide +kernel)
set_option maxRecDepth 20000 in
theorem gX7_ofBasket_X7_is : GoodIn wsX7_ofBasket (va_wsS RX7 48 yX7_is wsX7_is) := goodIn_app (goodIn_of _ (by decide +kernel)) ggX7_ofBasket_X7_is
set_option maxRecDepth 20000 in
theorem ggX7_ofBasket_Jx4a65c_get_915e3 : GoodIn wsX7_ofBasket wsJx4a65c_get_915e3 := goodIn_r _ [25, 14, 26, 27, 28, 29, 30, 31, 32, 33, 34, 35, 36, 12, 37, 38, 55, 56, 57] (by decide +kernel) (by decide +kernel)
set_option maxRecDepth 20000 in
theorem gX7_ofBasket_Jx4a65c_get_915e3 : GoodIn wsX7_ofBasket (wsV RX7 68 RJx4a65c yJx4a65c_get_915e3 wsJx4a65c_get_915e3) := goodIn_app (goodIn_of _ (by decide +kernel)) ggX7_ofBasket_Jx4a65c_get_915e3
set_option maxRecDepth 20000 in
theorem ggX7_ofTankNow_X7_sum : GoodIn wsX7_ofTankNow wsX7_sum := goodIn_r _ [5] (by decide +kernel) (by decide +kernel)
set_option maxRecDepth 20000 in
theorem gX7_ofTankNow_X7_sum : GoodIn wsX7_ofTankNow (va_wsS RX7 157 yX7_sum wsX7_sum) := goodIn_app (goodIn_of _ (by decide +kernel)) ggX7_ofTankNow_X7_sum
set_option maxRecDepth 20000 in
theorem ggX7_ofTank_X7_isTank : GoodIn wsX7_ofTank wsX7_isTank := goodIn_r _ [5, 6, 7, 4, 8] (by decide +kernel) (by decide +kernel)
set_option maxRecDepth 20000 in
theorem gX7_ofTank_X7_isTank : GoodIn wsX7_ofTank (va_wsS RX7 128 yX7_isTank wsX7_isTank) := goodIn_app (goodIn_of _ (by decide +kernel)) ggX7_ofTank_X7_isTank
set_option maxRecDepth 20000 in
theorem ggX7_ofTank_X7_refuse : GoodIn wsX7_ofTank wsX7_refuse := goodIn_r _ [12, 1, 21, 22, 23, 24, 25, 26, 27, 28, 29, 30, 31, 32, 33, 34, 35, 36] (by decide +kernel) (by decide +kernel)
set_option maxRecDepth 20000 in
theorem gX7_ofTank_X7_refuse : GoodIn wsX7_ofTank (wsV RX7 56 RX7 yX7_refuse wsX7_refuse) := goodIn_app (goodIn_of _ (by decide +kernel)) ggX7_ofTank_X7_refuse
set_option maxRecDepth 20000 in
theorem ggX7_ofTank_X7_is : GoodIn wsX7_ofTank wsX7_is := goodIn_r _ [8] (by decide +kernel) (by decide +kernel)
set_option maxRecDepth 20000 in
theorem gX7_ofTank_X7_is : GoodIn wsX7_ofTank (va_wsS RX7 48 yX7_is wsX7_is) := goodIn_app (goodIn_of _ (by decide +kernel)) ggX7_ofTank_X7_is
set_option maxRecDepth 20000 in
theorem ggX7_ofTank_X7_ofTankNow : GoodIn wsX7_ofTank wsX7_ofTankNow := goodIn_r _ [16, 17, 18, 19, 4, 20, 21, 22, 23, 24, 25, 26, 27, 28, 29, 30, 31, 32, 33, 34, 35, 36] (by decide +kernel) (by decide +kernel)
set_option maxRecDepth 20000 in
theorem gX7_ofTank_X7_ofTankNow : GoodIn wsX7_ofTank (wsV RX7 220 RX7 yX7_ofTankNow wsX7_ofTankNow) := goodIn_app (goodIn_of _ (by decide +kernel)) ggX7_ofTank_X7_ofTankNow
set_option maxRecDepth 20000 in
theorem ggX7_ofBedNow_Jx4a65c_get_915e3 : GoodIn wsX7_ofBedNow wsJx4a65c_get_915e3 := goodIn_r _ [8, 9, 10, 11, 12, 13, 14, 15, 16, 17, 18, 19, 20, 7, 21, 22, 39, 40, 41] (by decide +kernel) (by decide +kernel)
set_option maxRecDepth 20000 in
theorem gX7_ofBedNow_Jx4a65c_get_915e3 : GoodIn wsX7_ofBedNow (wsV RX7 68 RJx4a65c yJx4a65c_get_915e3 wsJx4a65c_get_915e3) := goodIn_app (goodIn_of _ (by decide +kernel)) ggX7_ofBedNow_Jx4a65c_get_915e3
set_option maxRecDepth 20000 in
theorem ggX7_ofBed_X7_isBed : GoodIn wsX7_ofBed wsX7_isBed := goodIn_r _ [6, 7, 8, 9, 10, 11, 12, 13, 14, 15, 5, 16, 44, 45, 46, 47, 48, 49, 50, 51, 52, 53, 54, 55, 56, 57, 58, 59, 60, 61, 62] (by decide +kernel) (by decide +kernel)
set_option maxRecDepth 20000 in
theorem gX7_ofBed_X7_isBed : GoodIn wsX7_ofBed (wsV RX7 139 RX7 yX7_isBed wsX7_isBed) := goodIn_app (goodIn_of _ (by decide +kernel)) ggX7_ofBed_X7_isBed
set_option maxRecDepth 20000 in
theorem ggX7_ofBed_X7_refuse : GoodIn wsX7_ofBed wsX7_refuse := goodIn_r _ [20, 1, 44, 45, 46, 47, 48, 49, 50, 51, 52, 53, 54, 55, 56, 57, 58, 59] (by decide +kernel) (by decide +kernel)
set_option maxRecDepth 20000 in
theorem gX7_ofBed_X7_refuse : GoodIn wsX7_ofBed (wsV RX7 56 RX7 yX7_refuse wsX7_refuse) := goodIn_app (goodIn_of _ (by decide +kernel)) ggX7_ofBed_X7_refuse
set_option maxRecDepth 20000 in
theorem ggX7_ofBed_X7_is : GoodIn wsX7_ofBed wsX7_is := goodIn_r _ [16] (by decide +kernel) (by decide +kernel)
set_option maxRecDepth 20000 in
theorem gX7_ofBed_X7_is : GoodIn wsX7_ofBed (va_wsS RX7 48 yX7_is wsX7_is) := goodIn_app (goodIn_of _ (by decide +kernel)) ggX7_ofBed_X7_is
set_option maxRecDepth 20000 in
theorem ggX7_ofBed_X7_ofBedNow : GoodIn wsX7_ofBed wsX7_ofBedNow := goodIn_r _ [24, 7, 25, 26, 27, 28, 29, 11, 30, 13, 31, 32, 33, 34, 35, 36, 37, 38, 39, 40, 41, 42, 43, 44, 45, 46, 47, 48, 49, 50, 51, 52, 53, 54, 55, 56, 57, 58, 59, 60, 61, 62] (by decide +kernel) (by decide +kernel)
set_option maxRecDepth 20000 in
theorem gX7_ofBed_X7_ofBedNow : GoodIn wsX7_ofBed (wsV RX7 223 RX7 yX7_ofBedNow wsX7_ofBedNow) := goodIn_app (goodIn_of _ (by decide +kernel)) ggX7_ofBed_X7_ofBedNow
set_option maxRecDepth 20000 in
theorem ggX7_ofLotNow_Jx4a65c_get_915e3 : GoodIn wsX7_ofLotNow wsJx4a65c_get_915e3 := goodIn_r _ [8, 9, 10, 11, 12, 13, 14, 15, 16, 17, 18, 19, 20, 7, 21, 22, 67, 68, 69] (by decide +kernel) (by decide +kernel)
set_option maxRecDepth 20000 in
theorem gX7_ofLotNow_Jx4a65c_get_915e3 : GoodIn wsX7_ofLotNow (wsV RX7 68 RJx4a65c yJx4a65c_get_915e3 wsJx4a65c_get_915e3) := goodIn_app (goodIn_of _ (by decide +kernel)) ggX7_ofLotNow_Jx4a65c_get_915e3
set_option maxRecDepth 20000 in
theorem ggX7_ofLotNow_X7_sum : GoodIn wsX7_ofLotNow wsX7_sum := goodIn_r _ [26] (by decide +kernel) (by decide +kernel)
set_option maxRecDepth 20000 in
theorem gX7_ofLotNow_X7_sum : GoodIn wsX7_ofLotNow (va_wsS RX7 157 yX7_sum wsX7_sum) := goodIn_app (goodIn_of _ (by decide +kernel)) ggX7_ofLotNow_X7_sum
set_option maxRecDepth 20000 in
theorem ggX7_ofLotNow_X7_gradeOf : GoodIn wsX7_ofLotNow wsX7_gradeOf := goodIn_r _ [30, 31, 51, 52, 53, 54, 55, 56, 57, 58, 59, 60, 61, 62, 63, 64, 65, 66] (by decide +kernel) (by decide +kernel)
set_option maxRecDepth 20000 in
theorem gX7_ofLotNow_X7_gradeOf : GoodIn wsX7_ofLotNow (wsV RX7 196 RX7 yX7_gradeOf wsX7_gradeOf) := goodIn_app (goodIn_of _ (by decide +kernel)) ggX7_ofLotNow_X7_gradeOf
set_option maxRecDepth 20000 in
theorem ggX7_ofLotNow_X7_scoreOf : GoodIn wsX7_ofLotNow wsX7_scoreOf := goodIn_r _ [35, 36, 2, 37, 38, 39, 40, 41, 42, 43, 7, 44, 9, 4, 5, 6, 8, 10, 11, 12, 13, 14, 15, 16, 17, 18, 19, 20, 21, 22, 45, 46, 25, 47, 51, 52, 53, 54, 55, 56, 57, 58, 59, 60, 61, 62, 63, 64, 65, 66, 67, 68, 69] (by decide +kernel) (by decide +kernel)
set_option maxRecDepth 20000 in
theorem gX7_ofLotNow_X7_scoreOf : GoodIn wsX7_ofLotNow (wsV RX7 177 RX7 yX7_scoreOf wsX7_scoreOf) := goodIn_app (goodIn_of _ (by decide +kernel)) ggX7_ofLotNow_X7_scoreOf
set_option maxRecDepth 20000 in
theorem ggX7_ofLotNow_X7_causeOf : GoodIn wsX7_ofLotNow wsX7_causeOf := goodIn_r _ [50, 45, 46, 25, 47, 37, 38, 39, 40] (by decide +kernel) (by decide +kernel)
set_option maxRecDepth 20000 in
theorem gX7_ofLotNow_X7_causeOf : GoodIn wsX7_ofLotNow (va_wsS RX7 226 yX7_causeOf wsX7_causeOf) := goodIn_app (goodIn_of _ (by decide +kernel)) ggX7_ofLotNow_X7_causeOf
set_option maxRecDepth 20000 in
theorem ggX7_ofLot_X7_isLot : GoodIn wsX7_ofLot wsX7_isLot := goodIn_r _ [6, 7, 8, 9, 10, 11, 12, 13, 14, 15, 5, 16, 67, 68, 69, 70, 71, 72, 73, 74, 75, 76, 77, 78, 79, 80, 81, 82, 83, 84, 85] (by decide +kernel) (by decide +kernel)
set_option maxRecDepth 20000 in
theorem gX7_ofLot_X7_isLot : GoodIn wsX7_ofLot (wsV RX7 170 RX7 yX7_isLot wsX7_isLot) := goodIn_app (goodIn_of _ (by decide +kernel)) ggX7_ofLot_X7_isLot
set_option maxRecDepth 20000 in
theorem ggX7_ofLot_X7_refuse : GoodIn wsX7_ofLot wsX7_refuse := goodIn_r _ [20, 1, 67, 68, 69, 70, 71, 72, 73, 74, 75, 76, 77, 78, 79, 80, 81, 82] (by decide +kernel) (by decide +kernel)
set_option maxRecDepth 20000 in
theorem gX7_ofLot_X7_refuse : GoodIn wsX7_ofLot (wsV RX7 56 RX7 yX7_refuse wsX7_refuse) := goodIn_app (goodIn_of _ (by decide +kernel)) ggX7_ofLot_X7_refuse
set_option maxRecDepth 20000 in
theorem ggX7_ofLot_X7_is : GoodIn wsX7_ofLot wsX7_is := goodIn_r _ [16] (by decide +kernel) (by decide +kernel)
set_option maxRecDepth 20000 in
theorem gX7_ofLot_X7_is : GoodIn wsX7_ofLot (va_wsS RX7 48 yX7_is wsX7_is) := goodIn_app (goodIn_of _ (by decide +kernel)) ggX7_ofLot_X7_is
set_option maxRecDepth 20000 in
theorem ggX7_ofLot_X7_ofLotNow : GoodIn wsX7_ofLot wsX7_ofLotNow := goodIn_r _ [24, 7, 25, 26, 27, 28, 29, 11, 30, 13, 31, 32, 33, 34, 35, 36, 37, 38, 39, 40, 41, 42, 43, 44, 45, 5, 46, 47, 48, 49, 50, 51, 52, 53, 54, 55, 56, 57, 58, 59, 60, 8, 9, 10, 12, 61, 62, 63, 64, 65, 66, 67, 68, 69, 70, 71, 72, 73, 74, 75, 76, 77, 78, 79, 80, 81, 82, 83, 84, 85] (by decide +kernel) (by decide +kernel)
set_option maxRecDepth 20000 in
theorem gX7_ofLot_X7_ofLotNow : GoodIn wsX7_ofLot (wsV RX7 229 RX7 yX7_ofLotNow wsX7_ofLotNow) := goodIn_app (goodIn_of _ (by decide +kernel)) ggX7_ofLot_X7_ofLotNow
set_option maxRecDepth 20000 in
theorem ggX7_kilosOf_X7_isLot : GoodIn wsX7_kilosOf wsX7_isLot := goodIn_r _ [8, 2, 9, 10, 11, 12, 13, 14, 15, 16, 7, 17, 44, 45, 46, 47, 48, 49, 50, 51, 52, 53, 54, 55, 56, 57, 58, 59, 60, 61, 62] (by decide +kernel) (by decide +kernel)
set_option maxRecDepth 20000 in
theorem gX7_kilosOf_X7_isLot : GoodIn wsX7_kilosOf (wsV RX7 170 RX7 yX7_isLot wsX7_isLot) := goodIn_app (goodIn_of _ (by decide +kernel)) ggX7_kilosOf_X7_isLot
set_option maxRecDepth 20000 in
theorem ggX7_kilosOf_X7_isFarm : GoodIn wsX7_kilosOf wsX7_isFarm := goodIn_r _ [21, 22, 9, 10, 11, 12, 13, 14, 15, 16, 7, 17, 44, 45, 46, 47, 48, 49, 50, 51, 52, 53, 54, 55, 56, 57, 58, 59, 60, 61, 62] (by decide +kernel) (by decide +kernel)
set_option maxRecDepth 20000 in
theorem gX7_kilosOf_X7_isFarm : GoodIn wsX7_kilosOf (wsV RX7 64 RX7 yX7_isFarm wsX7_isFarm) := goodIn_app (goodIn_of _ (by decide +kernel)) ggX7_kilosOf_X7_isFarm
set_option maxRecDepth 20000 in
theorem ggX7_kilosOf_Jx4a65c_get_915e3 : GoodIn wsX7_kilosOf wsJx4a65c_get_915e3 := goodIn_r _ [26, 14, 27, 28, 29, 30, 31, 32, 33, 34, 35, 36, 37, 12, 38, 39, 60, 61, 62] (by decide +kernel) (by decide +kernel)
set_option maxRecDepth 20000 in
theorem gX7_kilosOf_Jx4a65c_get_915e3 : GoodIn wsX7_kilosOf (wsV RX7 68 RJx4a65c yJx4a65c_get_915e3 wsJx4a65c_get_915e3) := goodIn_app (goodIn_of _ (by decide +kernel)) ggX7_kilosOf_Jx4a65c_get_915e3
set_option maxRecDepth 20000 in
theorem ggX7_kilosOf_X7_refuse : GoodIn wsX7_kilosOf wsX7_refuse := goodIn_r _ [43, 1, 44, 45, 46, 47, 48, 49, 50, 51, 52, 53, 54, 55, 56, 57, 58, 59] (by decide +kernel) (by decide +kernel)
set_option maxRecDepth 20000 in
theorem gX7_kilosOf_X7_refuse : GoodIn wsX7_kilosOf (wsV RX7 56 RX7 yX7_refuse wsX7_refuse) := goodIn_app (goodIn_of _ (by decide +kernel)) ggX7_kilosOf_X7_refuse
set_option maxRecDepth 20000 in
theorem ggX7_manyNow_Jx4a65c_iterator_32c93 : GoodIn wsX7_manyNow wsJx4a65c_iterator_32c93 := goodIn_r _ [18, 19, 20, 21, 22, 23, 24, 25, 26, 27, 28, 29, 30, 31, 32, 72, 73, 74, 75, 76, 77, 78] (by decide +kernel) (by decide +kernel)
set_option maxRecDepth 20000 in
theorem gX7_manyNow_Jx4a65c_iterator_32c93 : GoodIn wsX7_manyNow (wsV RX7 92 RJx4a65c yJx4a65c_iterator_32c93 wsJx4a65c_iterator_32c93) := goodIn_app (goodIn_of _ (by decide +kernel)) ggX7_manyNow_Jx4a65c_iterator_32c93
set_option maxRecDepth 20000 in
theorem ggX7_manyNow_Jx35411_hasNext_aae02 : GoodIn wsX7_manyNow wsJx35411_hasNext_aae02 := goodIn_r _ [36, 37, 25, 72, 73, 74, 75, 76, 77, 78] (by decide +kernel) (by decide +kernel)
set_option maxRecDepth 20000 in
theorem gX7_manyNow_Jx35411_hasNext_aae02_f96Jx35411 : GoodIn wsX7_manyNow (va_wsF RX7 96 RJx35411 ⟨"java/util/Iterator", "hasNext", "()Z"⟩ yJx35411_hasNext_aae02 wsJx35411_hasNext_aae02) := goodIn_app (goodIn_of _ (by decide +kernel)) ggX7_manyNow_Jx35411_hasNext_aae02
set_option maxRecDepth 20000 in
theorem ggX7_manyNow_Jx35411_next_0502b : GoodIn wsX7_manyNow wsJx35411_next_0502b := goodIn_r _ [41, 37, 25, 42, 29, 43, 44, 45, 21, 46, 30, 31, 32, 72, 73, 74, 75, 76, 77, 78] (by decide +kernel) (by decide +kernel)
set_option maxRecDepth 20000 in
theorem gX7_manyNow_Jx35411_next_0502b_f102Jx35411 : GoodIn wsX7_manyNow (va_wsF RX7 102 RJx35411 ⟨"java/util/Iterator", "next", "()Ljava/lang/Object;"⟩ yJx35411_next_0502b wsJx35411_next_0502b) := goodIn_app (goodIn_of _ (by decide +kernel)) ggX7_manyNow_Jx35411_next_0502b
set_option maxRecDepth 20000 in
theorem ggX7_manyNow_X7_isIn : GoodIn wsX7_manyNow wsX7_isIn := goodIn_r _ [50] (by decide +kernel) (by decide +kernel)
set_option maxRecDepth 20000 in
theorem gX7_manyNow_X7_isIn : GoodIn wsX7_manyNow (va_wsS RX7 173 yX7_isIn wsX7_isIn) := goodIn_app (goodIn_of _ (by decide +kernel)) ggX7_manyNow_X7_isIn
set_option maxRecDepth 20000 in
theorem ggX7_manyNow_Jx4a65c_size_8abf5 : GoodIn wsX7_manyNow wsJx4a65c_size_8abf5 := goodIn_r _ [54, 55, 76, 77, 78] (by decide +kernel) (by decide +kernel)
set_option maxRecDepth 20000 in
theorem gX7_manyNow_Jx4a65c_size_8abf5 : GoodIn wsX7_manyNow (wsV RX7 44 RJx4a65c yJx4a65c_size_8abf5 wsJx4a65c_size_8abf5) := goodIn_app (goodIn_of _ (by decide +kernel)) ggX7_manyNow_Jx4a65c_size_8abf5
set_option maxRecDepth 20000 in
theorem ggX7_many_X7_is : GoodIn wsX7_many wsX7_is := goodIn_r _ [5] (by decide +kernel) (by decide +kernel)
set_option maxRecDepth 20000 in
theorem gX7_many_X7_is : GoodIn wsX7_many (va_wsS RX7 48 yX7_is wsX7_is) := goodIn_app (goodIn_of _ (by decide +kernel)) ggX7_many_X7_is
set_option maxRecDepth 20000 in
theorem ggX7_many_X7_manyNow : GoodIn wsX7_many wsX7_manyNow := goodIn_r _ [9, 10, 11, 12, 13, 14, 15, 16, 17, 18, 19, 20, 21, 22, 23, 24, 25, 26, 27, 28, 29, 30, 31, 32, 33, 34, 35, 36, 37, 38, 39, 40, 41, 42, 43, 44, 45, 46, 47, 48, 49, 50, 51, 52, 53, 54, 55, 56, 57, 4, 58, 59, 60, 61, 62, 63, 68, 69, 70, 71, 72, 73, 74, 75, 76, 77, 78, 79, 80, 81, 82, 83, 84, 85, 86, 87, 88, 89, 90] (by decide +kernel) (by decide +kernel)
set_option maxRecDepth 20000 in
theorem gX7_many_X7_manyNow : GoodIn wsX7_many (wsV RX7 232 RX7 yX7_manyNow wsX7_manyNow) := goodIn_app (goodIn_of _ (by decide +kernel)) ggX7_many_X7_manyNow
set_option maxRecDepth 20000 in
theorem ggX7_many_X7_refuse : GoodIn wsX7_many wsX7_refuse := goodIn_r _ [67, 1, 68, 69, 70, 71, 72, 73, 74, 75, 76, 77, 78, 79, 80, 81, 82, 83] (by decide +kernel) (by decide +kernel)
set_option maxRecDepth 20000 in
theorem gX7_many_X7_refuse : GoodIn wsX7_many (wsV RX7 56 RX7 yX7_refuse wsX7_refuse) := goodIn_app (goodIn_of _ (by decide +kernel)) ggX7_many_X7_refuse
set_option maxRecDepth 20000 in
theorem ggX7_meanScore_Jx4a65c_iterator_32c93 : GoodIn wsX7_meanScore wsJx4a65c_iterator_32c93 := goodIn_r _ [8, 9, 10, 11, 12, 13, 14, 15, 16, 17, 18, 19, 20, 21, 22, 105, 106, 107, 108, 109, 110, 111] (by decide +kernel) (by decide +kernel)
set_option maxRecDepth 20000 in
theorem gX7_meanScore_Jx4a65c_iterator_32c93 : GoodIn wsX7_meanScore (wsV RX7 92 RJx4a65c yJx4a65c_iterator_32c93 wsJx4a65c_iterator_32c93) := goodIn_app (goodIn_of _ (by decide +kernel)) ggX7_meanScore_Jx4a65c_iterator_32c93
set_option maxRecDepth 20000 in
theorem ggX7_meanScore_Jx35411_hasNext_aae02 : GoodIn wsX7_meanScore wsJx35411_hasNext_aae02 := goodIn_r _ [26, 27, 15, 105, 106, 107, 108, 109, 110, 111] (by decide +kernel) (by decide +kernel)
set_option maxRecDepth 20000 in
theorem gX7_meanScore_Jx35411_hasNext_aae02_f96Jx35411 : GoodIn wsX7_meanScore (va_wsF RX7 96 RJx35411 ⟨"java/util/Iterator", "hasNext", "()Z"⟩ yJx35411_hasNext_aae02 wsJx35411_hasNext_aae02) := goodIn_app (goodIn_of _ (by decide +kernel)) ggX7_meanScore_Jx35411_hasNext_aae02
set_option maxRecDepth 20000 in
theorem ggX7_meanScore_Jx35411_next_0502b : GoodIn wsX7_meanScore wsJx35411_next_0502b := goodIn_r _ [31, 27, 15, 32, 19, 33, 34, 35, 11, 36, 20, 21, 22, 105, 106, 107, 108, 109, 110, 111] (by decide +kernel) (by decide +kernel)
set_option maxRecDepth 20000 in
theorem gX7_meanScore_Jx35411_next_0502b_f102Jx35411 : GoodIn wsX7_meanScore (va_wsF RX7 102 RJx35411 ⟨"java/util/Iterator", "next", "()Ljava/lang/Object;"⟩ yJx35411_next_0502b wsJx35411_next_0502b) := goodIn_app (goodIn_of _ (by decide +kernel)) ggX7_meanScore_Jx35411_next_0502b
set_option maxRecDepth 20000 in
theorem ggX7_meanScore_X7_isIn : GoodIn wsX7_meanScore wsX7_isIn := goodIn_r _ [40] (by decide +kernel) (by decide +kernel)
set_option maxRecDepth 20000 in
theorem gX7_meanScore_X7_isIn : GoodIn wsX7_meanScore (va_wsS RX7 173 yX7_isIn wsX7_isIn) := goodIn_app (goodIn_of _ (by decide +kernel)) ggX7_meanScore_X7_isIn
set_option maxRecDepth 20000 in
theorem ggX7_meanScore_X7_scoreOf : GoodIn wsX7_meanScore wsX7_scoreOf := goodIn_r _ [44, 45, 3, 46, 47, 48, 49, 50, 51, 52, 7, 53, 54, 55, 56, 57, 58, 59, 60, 61, 62, 63, 64, 65, 66, 67, 68, 69, 70, 71, 72, 73, 39, 74, 89, 90, 91, 92, 93, 94, 95, 96, 97, 98, 99, 100, 101, 102, 103, 104, 109, 110, 111] (by decide +kernel) (by decide +kernel)
set_option maxRecDepth 20000 in
theorem gX7_meanScore_X7_scoreOf : GoodIn wsX7_meanScore (wsV RX7 177 RX7 yX7_scoreOf wsX7_scoreOf) := goodIn_app (goodIn_of _ (by decide +kernel)) ggX7_meanScore_X7_scoreOf
set_option maxRecDepth 20000 in
theorem ggX7_meanScore_X7_manyNow : GoodIn wsX7_meanScore wsX7_manyNow := goodIn_r _ [78, 79, 3, 80, 81, 2, 45, 82, 83, 84, 85, 86, 87, 88, 4, 5, 6, 7, 8, 9, 10, 11, 12, 13, 14, 15, 16, 17, 18, 19, 20, 21, 22, 23, 24, 25, 26, 27, 28, 29, 30, 31, 32, 33, 34, 35, 36, 37, 38, 39, 40, 50, 51, 52, 53, 54, 89, 90, 91, 92, 93, 94, 95, 96, 97, 98, 99, 100, 101, 102, 103, 104, 105, 106, 107, 108, 109, 110, 111] (by decide +kernel) (by decide +kernel)
set_option maxRecDepth 20000 in
theorem gX7_meanScore_X7_manyNow : GoodIn wsX7_meanScore (wsV RX7 232 RX7 yX7_manyNow wsX7_manyNow) := goodIn_app (goodIn_of _ (by decide +kernel)) ggX7_meanScore_X7_manyNow
set_option maxRecDepth 20000 in
theorem ggX7_readyNow_X7_rises : GoodIn wsX7_readyNow wsX7_rises := goodIn_r _ [5] (by decide +kernel) (by decide +kernel)
set_option maxRecDepth 20000 in
theorem gX7_readyNow_X7_rises : GoodIn wsX7_readyNow (va_wsS RX7 109 yX7_rises wsX7_rises) := goodIn_app (goodIn_of _ (by decide +kernel)) ggX7_readyNow_X7_rises
set_option maxRecDepth 20000 in
theorem ggX7_readyIn_X7_isTank : GoodIn wsX7_readyIn wsX7_isTank := goodIn_r _ [5, 6, 7, 4, 8] (by decide +kernel) (by decide +kernel)
set_option maxRecDepth 20000 in
theorem gX7_readyIn_X7_isTank : GoodIn wsX7_readyIn (va_wsS RX7 128 yX7_isTank wsX7_isTank) := goodIn_app (goodIn_of _ (by decide +kernel)) ggX7_readyIn_X7_isTank
set_option maxRecDepth 20000 in
theorem ggX7_readyIn_X7_refuse : GoodIn wsX7_readyIn wsX7_refuse := goodIn_r _ [12, 1, 24, 25, 26, 27, 28, 29, 30, 31, 32, 33, 34, 35, 36, 37, 38, 39] (by decide +kernel) (by decide +kernel)
set_option maxRecDepth 20000 in
theorem gX7_readyIn_X7_refuse : GoodIn wsX7_readyIn (wsV RX7 56 RX7 yX7_refuse wsX7_refuse) := goodIn_app (goodIn_of _ (by decide +kernel)) ggX7_readyIn_X7_refuse
set_option maxRecDepth 20000 in
theorem ggX7_readyIn_X7_isWarmth : GoodIn wsX7_readyIn wsX7_isWarmth := goodIn_r _ [15, 6, 7, 4, 8] (by decide +kernel) (by decide +kernel)
set_option maxRecDepth 20000 in
theorem gX7_readyIn_X7_isWarmth : GoodIn wsX7_readyIn (va_wsS RX7 119 yX7_isWarmth wsX7_isWarmth) := goodIn_app (goodIn_of _ (by decide +kernel)) ggX7_readyIn_X7_isWarmth
set_option maxRecDepth 20000 in
theorem ggX7_readyIn_X7_readyNow : GoodIn wsX7_readyIn wsX7_readyNow := goodIn_r _ [19, 20, 21, 22, 4, 23, 24, 25, 26, 27, 28, 29, 30, 31, 32, 33, 34, 35, 36, 37, 38, 39] (by decide +kernel) (by decide +kernel)
set_option maxRecDepth 20000 in
theorem gX7_readyIn_X7_readyNow : GoodIn wsX7_readyIn (wsV RX7 235 RX7 yX7_readyNow wsX7_readyNow) := goodIn_app (goodIn_of _ (by decide +kernel)) ggX7_readyIn_X7_readyNow
set_option maxRecDepth 20000 in
theorem ggX7_dryNow_Jx4a65c_get_915e3 : GoodIn wsX7_dryNow wsJx4a65c_get_915e3 := goodIn_r _ [13, 14, 15, 16, 17, 18, 19, 20, 21, 22, 23, 24, 25, 12, 26, 27, 58, 59, 60] (by decide +kernel) (by decide +kernel)
set_option maxRecDepth 20000 in
theorem gX7_dryNow_Jx4a65c_get_915e3 : GoodIn wsX7_dryNow (wsV RX7 68 RJx4a65c yJx4a65c_get_915e3 wsJx4a65c_get_915e3) := goodIn_app (goodIn_of _ (by decide +kernel)) ggX7_dryNow_Jx4a65c_get_915e3
set_option maxRecDepth 20000 in
theorem ggX7_dryNow_X7_dry : GoodIn wsX7_dryNow wsX7_dry := goodIn_r _ [31, 32, 33, 34, 35, 36, 37, 30, 38, 39, 40, 41] (by decide +kernel) (by decide +kernel)
set_option maxRecDepth 20000 in
theorem gX7_dryNow_X7_dry : GoodIn wsX7_dryNow (va_wsS RX7 115 yX7_dry wsX7_dry) := goodIn_app (goodIn_of _ (by decide +kernel)) ggX7_dryNow_X7_dry
set_option maxRecDepth 20000 in
theorem ggX7_dryIn_X7_isBed : GoodIn wsX7_dryIn wsX7_isBed := goodIn_r _ [6, 7, 8, 9, 10, 11, 12, 13, 14, 15, 5, 16, 62, 63, 64, 65, 66, 67, 68, 69, 70, 71, 72, 73, 74, 75, 76, 77, 78, 79, 80] (by decide +kernel) (by decide +kernel)
set_option maxRecDepth 20000 in
theorem gX7_dryIn_X7_isBed : GoodIn wsX7_dryIn (wsV RX7 139 RX7 yX7_isBed wsX7_isBed) := goodIn_app (goodIn_of _ (by decide +kernel)) ggX7_dryIn_X7_isBed
set_option maxRecDepth 20000 in
theorem ggX7_dryIn_X7_refuse : GoodIn wsX7_dryIn wsX7_refuse := goodIn_r _ [20, 1, 62, 63, 64, 65, 66, 67, 68, 69, 70, 71, 72, 73, 74, 75, 76, 77] (by decide +kernel) (by decide +kernel)
set_option maxRecDepth 20000 in
theorem gX7_dryIn_X7_refuse : GoodIn wsX7_dryIn (wsV RX7 56 RX7 yX7_refuse wsX7_refuse) := goodIn_app (goodIn_of _ (by decide +kernel)) ggX7_dryIn_X7_refuse
set_option maxRecDepth 20000 in
theorem ggX7_dryIn_X7_isWarmth : GoodIn wsX7_dryIn wsX7_isWarmth := goodIn_r _ [23, 14, 15, 5, 16] (by decide +kernel) (by decide +kernel)
set_option maxRecDepth 20000 in
theorem gX7_dryIn_X7_isWarmth : GoodIn wsX7_dryIn (va_wsS RX7 119 yX7_isWarmth wsX7_isWarmth) := goodIn_app (goodIn_of _ (by decide +kernel)) ggX7_dryIn_X7_isWarmth
set_option maxRecDepth 20000 in
theorem ggX7_dryIn_X7_dryNow : GoodIn wsX7_dryIn wsX7_dryNow := goodIn_r _ [27, 7, 28, 29, 30, 31, 32, 33, 34, 35, 36, 37, 11, 38, 13, 39, 40, 41, 42, 43, 44, 45, 46, 47, 48, 49, 50, 51, 52, 53, 5, 54, 55, 56, 57, 58, 14, 15, 16, 59, 60, 61, 62, 63, 64, 65, 66, 67, 68, 69, 70, 71, 72, 73, 74, 75, 76, 77, 78, 79, 80] (by decide +kernel) (by decide +kernel)
set_option maxRecDepth 20000 in
theorem gX7_dryIn_X7_dryNow : GoodIn wsX7_dryIn (wsV RX7 238 RX7 yX7_dryNow wsX7_dryNow) := goodIn_app (goodIn_of _ (by decide +kernel)) ggX7_dryIn_X7_dryNow
set_option maxRecDepth 20000 in
theorem ggX7_bestNow_Jx4a65c_size_8abf5 : GoodIn wsX7_bestNow wsJx4a65c_size_8abf5 := goodIn_r _ [7, 8, 75, 76, 77] (by decide +kernel) (by decide +kernel)
set_option maxRecDepth 20000 in
theorem gX7_bestNow_Jx4a65c_size_8abf5 : GoodIn wsX7_bestNow (wsV RX7 44 RJx4a65c yJx4a65c_size_8abf5 wsJx4a65c_size_8abf5) := goodIn_app (goodIn_of _ (by decide +kernel)) ggX7_bestNow_Jx4a65c_size_8abf5
set_option maxRecDepth 20000 in
theorem ggX7_bestNow_Jx4a65c_get_915e3 : GoodIn wsX7_bestNow wsJx4a65c_get_915e3 := goodIn_r _ [12, 8, 13, 14, 15, 16, 17, 18, 19, 20, 21, 22, 23, 6, 24, 25, 75, 76, 77] (by decide +kernel) (by decide +kernel)
set_option maxRecDepth 20000 in
theorem gX7_bestNow_Jx4a65c_get_915e3 : GoodIn wsX7_bestNow (wsV RX7 68 RJx4a65c yJx4a65c_get_915e3 wsJx4a65c_get_915e3) := goodIn_app (goodIn_of _ (by decide +kernel)) ggX7_bestNow_Jx4a65c_get_915e3
set_option maxRecDepth 20000 in
theorem ggX7_bestNow_X7_canBlend : GoodIn wsX7_bestNow wsX7_canBlend := goodIn_r _ [29, 30, 31, 28, 32] (by decide +kernel) (by decide +kernel)
set_option maxRecDepth 20000 in
theorem gX7_bestNow_X7_canBlend : GoodIn wsX7_bestNow (va_wsS RX7 184 yX7_canBlend wsX7_canBlend) := goodIn_app (goodIn_of _ (by decide +kernel)) ggX7_bestNow_X7_canBlend
set_option maxRecDepth 20000 in
theorem ggX7_bestNow_X7_blendOf : GoodIn wsX7_bestNow wsX7_blendOf := goodIn_r _ [35, 36, 37, 38, 39, 40, 2, 41, 42, 43, 44, 45, 46, 28, 47, 48, 49, 50] (by decide +kernel) (by decide +kernel)
set_option maxRecDepth 20000 in
theorem gX7_bestNow_X7_blendOf : GoodIn wsX7_bestNow (va_wsS RX7 188 yX7_blendOf wsX7_blendOf) := goodIn_app (goodIn_of _ (by decide +kernel)) ggX7_bestNow_X7_blendOf
set_option maxRecDepth 20000 in
theorem ggX7_bestNow_X7_scoreOf : GoodIn wsX7_bestNow wsX7_scoreOf := goodIn_r _ [54, 55, 2, 41, 42, 43, 44, 3, 4, 5, 6, 7, 8, 9, 10, 11, 12, 13, 14, 15, 16, 17, 18, 19, 20, 21, 22, 23, 24, 25, 56, 57, 28, 58, 59, 60, 61, 62, 63, 64, 65, 66, 67, 68, 69, 70, 71, 72, 73, 74, 75, 76, 77] (by decide +kernel) (by decide +kernel)
set_option maxRecDepth 20000 in
theorem gX7_bestNow_X7_scoreOf : GoodIn wsX7_bestNow (wsV RX7 177 RX7 yX7_scoreOf wsX7_scoreOf) := goodIn_app (goodIn_of _ (by decide +kernel)) ggX7_bestNow_X7_scoreOf
set_option maxRecDepth 20000 in
theorem ggX7_bestBlend_X7_bestNow : GoodIn wsX7_bestBlend wsX7_bestNow := goodIn_r _ [6, 7, 8, 9, 10, 11, 12, 13, 14, 15, 16, 17, 18, 19, 20, 21, 22, 23, 24, 25, 26, 27, 28, 29, 30, 31, 32, 33, 5, 34, 35, 36, 37, 38, 39, 40, 41, 42, 43, 44, 45, 46, 47, 48, 49, 50, 51, 52, 53, 54, 55, 56, 57, 58, 59, 60, 61, 62, 63, 64, 65, 66, 67, 68, 69, 70, 71, 72, 73, 74, 75, 76, 77, 78, 79, 80, 81, 82] (by decide +kernel) (by decide +kernel)
set_option maxRecDepth 20000 in
theorem gX7_bestBlend_X7_bestNow : GoodIn wsX7_bestBlend (wsV RX7 241 RX7 yX7_bestNow wsX7_bestNow) := goodIn_app (goodIn_of _ (by decide +kernel)) ggX7_bestBlend_X7_bestNow
set_option maxRecDepth 20000 in
theorem ggX7_wouldShare_X7_isLot : GoodIn wsX7_wouldShare wsX7_isLot := goodIn_r _ [6, 7, 8, 9, 10, 11, 12, 13, 14, 15, 5, 16, 69, 70, 71, 72, 73, 74, 75, 76, 77, 78, 79, 80, 81, 82, 83, 84, 85, 86, 87] (by decide +kernel) (by decide +kernel)
set_option maxRecDepth 20000 in
theorem gX7_wouldShare_X7_isLot : GoodIn wsX7_wouldShare (wsV RX7 170 RX7 yX7_isLot wsX7_isLot) := goodIn_app (goodIn_of _ (by decide +kernel)) ggX7_wouldShare_X7_isLot
set_option maxRecDepth 20000 in
theorem ggX7_wouldShare_X7_isFarm : GoodIn wsX7_wouldShare wsX7_isFarm := goodIn_r _ [20, 21, 8, 9, 10, 11, 12, 13, 14, 15, 5, 16, 69, 70, 71, 72, 73, 74, 75, 76, 77, 78, 79, 80, 81, 82, 83, 84, 85, 86, 87] (by decide +kernel) (by decide +kernel)
set_option maxRecDepth 20000 in
theorem gX7_wouldShare_X7_isFarm : GoodIn wsX7_wouldShare (wsV RX7 64 RX7 yX7_isFarm wsX7_isFarm) := goodIn_app (goodIn_of _ (by decide +kernel)) ggX7_wouldShare_X7_isFarm
set_option maxRecDepth 20000 in
theorem ggX7_wouldShare_X7_refuse : GoodIn wsX7_wouldShare wsX7_refuse := goodIn_r _ [25, 1, 69, 70, 71, 72, 73, 74, 75, 76, 77, 78, 79, 80, 81, 82, 83, 84] (by decide +kernel) (by decide +kernel)
set_option maxRecDepth 20000 in
theorem gX7_wouldShare_X7_refuse : GoodIn wsX7_wouldShare (wsV RX7 56 RX7 yX7_refuse wsX7_refuse) := goodIn_app (goodIn_of _ (by decide +kernel)) ggX7_wouldShare_X7_refuse
set_option maxRecDepth 20000 in
theorem ggX7_wouldShare_X7_is : GoodIn wsX7_wouldShare wsX7_is := goodIn_r _ [16] (by decide +kernel) (by decide +kernel)
set_option maxRecDepth 20000 in
theorem gX7_wouldShare_X7_is : GoodIn wsX7_wouldShare (va_wsS RX7 48 yX7_is wsX7_is) := goodIn_app (goodIn_of _ (by decide +kernel)) ggX7_wouldShare_X7_is
set_option maxRecDepth 20000 in
theorem ggX7_wouldShare_X7_canSell : GoodIn wsX7_wouldShare wsX7_canSell := goodIn_r _ [29, 7, 30, 31, 32, 33, 11, 34, 13, 35, 36, 37, 38, 39, 40, 41, 42, 43, 44, 45, 46, 47, 48, 49, 5, 50, 51, 52, 53, 54, 55, 69, 70, 71, 72, 73, 74, 75, 76, 77, 78, 79, 80, 81, 82, 83, 84, 85, 86, 87] (by decide +kernel) (by decide +kernel)
set_option maxRecDepth 20000 in
theorem gX7_wouldShare_X7_canSell : GoodIn wsX7_wouldShare (wsV RX7 207 RX7 yX7_canSell wsX7_canSell) := goodIn_app (goodIn_of _ (by decide +kernel)) ggX7_wouldShare_X7_canSell
set_option maxRecDepth 20000 in
theorem ggX7_wouldShare_X7_share : GoodIn wsX7_wouldShare wsX7_share := goodIn_r _ [59, 7, 30, 60, 61, 31, 32, 33, 11, 34, 13, 35, 36, 37, 38, 39, 40, 41, 42, 43, 44, 45, 46, 47, 62, 63, 64, 5, 65, 51, 52, 53, 54, 55, 66, 67, 68, 69, 70, 71, 72, 73, 74, 75, 76, 77, 78, 79, 80, 81, 82, 83, 84, 85, 86, 87] (by decide +kernel) (by decide +kernel)
set_option maxRecDepth 20000 in
theorem gX7_wouldShare_X7_share : GoodIn wsX7_wouldShare (wsV RX7 210 RX7 yX7_share wsX7_share) := goodIn_app (goodIn_of _ (by decide +kernel)) ggX7_wouldShare_X7_share
set_option maxRecDepth 20000 in
theorem ggX7_digest_X7_manyNow : GoodIn wsX7_digest wsX7_manyNow := goodIn_r _ [13, 5, 6, 14, 7, 8, 4, 15, 16, 17, 18, 19, 20, 21, 22, 23, 24, 25, 26, 27, 28, 29, 30, 31, 32, 33, 34, 35, 36, 37, 38, 39, 40, 41, 42, 43, 44, 45, 46, 47, 48, 49, 50, 51, 52, 53, 54, 55, 56, 12, 57, 58, 59, 60, 61, 62, 164, 165, 166, 167, 168, 169, 170, 171, 172, 173, 174, 175, 176, 177, 178, 179, 180, 181, 182, 183, 184, 185, 186] (by decide +kernel) (by decide +kernel)
set_option maxRecDepth 20000 in
theorem gX7_digest_X7_manyNow : GoodIn wsX7_digest (wsV RX7 232 RX7 yX7_manyNow wsX7_manyNow) := goodIn_app (goodIn_of _ (by decide +kernel)) ggX7_digest_X7_manyNow
set_option maxRecDepth 20000 in
theorem ggX7_digest_X7_add : GoodIn wsX7_digest wsX7_add := goodIn_r _ [66, 3, 67, 164, 165, 166, 167, 168, 169, 170, 171, 172, 173, 174, 175, 176, 177, 178, 179] (by decide +kernel) (by decide +kernel)
set_option maxRecDepth 20000 in
theorem gX7_digest_X7_add : GoodIn wsX7_digest (wsV RX7 251 RX7 yX7_add wsX7_add) := goodIn_app (goodIn_of _ (by decide +kernel)) ggX7_digest_X7_add
set_option maxRecDepth 20000 in
theorem ggX7_digest_Jx4a65c_size_8abf5 : GoodIn wsX7_digest wsJx4a65c_size_8abf5 := goodIn_r _ [61, 62, 184, 185, 186] (by decide +kernel) (by decide +kernel)
set_option maxRecDepth 20000 in
theorem gX7_digest_Jx4a65c_size_8abf5 : GoodIn wsX7_digest (wsV RX7 44 RJx4a65c yJx4a65c_size_8abf5 wsJx4a65c_size_8abf5) := goodIn_app (goodIn_of _ (by decide +kernel)) ggX7_digest_Jx4a65c_size_8abf5
set_option maxRecDepth 20000 in
theorem ggX7_digest_X7_ofFarmNow : GoodIn wsX7_digest wsX7_ofFarmNow := goodIn_r _ [71, 4, 6, 8, 72, 73, 74, 25, 75, 62, 76, 77, 78, 79, 80, 81, 82, 83, 84, 85, 86, 87, 88, 22, 23, 24, 26, 27, 28, 29, 30, 31, 32, 33, 34, 35, 36, 37, 38, 39, 40, 41, 42, 43, 44, 45, 46, 47, 48, 49, 50, 51, 52, 53, 54, 55, 56, 12, 57, 164, 165, 166, 167, 168, 169, 170, 171, 172, 173, 174, 175, 176, 177, 178, 179, 184, 185, 186, 180, 181, 182, 183] (by decide +kernel) (by decide +kernel)
set_option maxRecDepth 20000 in
theorem gX7_digest_X7_ofFarmNow : GoodIn wsX7_digest (wsV RX7 217 RX7 yX7_ofFarmNow wsX7_ofFarmNow) := goodIn_app (goodIn_of _ (by decide +kernel)) ggX7_digest_X7_ofFarmNow
set_option maxRecDepth 20000 in
theorem ggX7_digest_Jx4a65c_iterator_32c93 : GoodIn wsX7_digest wsJx4a65c_iterator_32c93 := goodIn_r _ [26, 27, 28, 29, 30, 31, 32, 33, 34, 35, 36, 37, 38, 39, 40, 180, 181, 182, 183, 184, 185, 186] (by decide +kernel) (by decide +kernel)
set_option maxRecDepth 20000 in
theorem gX7_digest_Jx4a65c_iterator_32c93 : GoodIn wsX7_digest (wsV RX7 92 RJx4a65c yJx4a65c_iterator_32c93 wsJx4a65c_iterator_32c93) := goodIn_app (goodIn_of _ (by decide +kernel)) ggX7_digest_Jx4a65c_iterator_32c93
set_option maxRecDepth 20000 in
theorem ggX7_digest_Jx35411_hasNext_aae02 : GoodIn wsX7_digest wsJx35411_hasNext_aae02 := goodIn_r _ [44, 45, 33, 180, 181, 182, 183, 184, 185, 186] (by decide +kernel) (by decide +kernel)
set_option maxRecDepth 20000 in
theorem gX7_digest_Jx35411_hasNext_aae02_f96Jx35411 : GoodIn wsX7_digest (va_wsF RX7 96 RJx35411 ⟨"java/util/Iterator", "hasNext", "()Z"⟩ yJx35411_hasNext_aae02 wsJx35411_hasNext_aae02) := goodIn_app (goodIn_of _ (by decide +kernel)) ggX7_digest_Jx35411_hasNext_aae02
set_option maxRecDepth 20000 in
theorem ggX7_digest_Jx35411_next_0502b : GoodIn wsX7_digest wsJx35411_next_0502b := goodIn_r _ [49, 45, 33, 50, 37, 51, 52, 53, 29, 54, 38, 39, 40, 180, 181, 182, 183, 184, 185, 186] (by decide +kernel) (by decide +kernel)
set_option maxRecDepth 20000 in
theorem gX7_digest_Jx35411_next_0502b_f102Jx35411 : GoodIn wsX7_digest (va_wsF RX7 102 RJx35411 ⟨"java/util/Iterator", "next", "()Ljava/lang/Object;"⟩ yJx35411_next_0502b wsJx35411_next_0502b) := goodIn_app (goodIn_of _ (by decide +kernel)) ggX7_digest_Jx35411_next_0502b
set_option maxRecDepth 20000 in
theorem ggX7_digest_X7_ofTankNow : GoodIn wsX7_digest wsX7_ofTankNow := goodIn_r _ [92, 14, 93, 94, 12, 95, 164, 165, 166, 167, 168, 169, 170, 171, 172, 173, 174, 175, 176, 177, 178, 179] (by decide +kernel) (by decide +kernel)
set_option maxRecDepth 20000 in
theorem gX7_digest_X7_ofTankNow : GoodIn wsX7_digest (wsV RX7 220 RX7 yX7_ofTankNow wsX7_ofTankNow) := goodIn_app (goodIn_of _ (by decide +kernel)) ggX7_digest_X7_ofTankNow
set_option maxRecDepth 20000 in
theorem ggX7_digest_X7_readyNow : GoodIn wsX7_digest wsX7_readyNow := goodIn_r _ [99, 14, 100, 101, 12, 102, 164, 165, 166, 167, 168, 169, 170, 171, 172, 173, 174, 175, 176, 177, 178, 179] (by decide +kernel) (by decide +kernel)
set_option maxRecDepth 20000 in
theorem gX7_digest_X7_readyNow : GoodIn wsX7_digest (wsV RX7 235 RX7 yX7_readyNow wsX7_readyNow) := goodIn_app (goodIn_of _ (by decide +kernel)) ggX7_digest_X7_readyNow
set_option maxRecDepth 20000 in
theorem ggX7_digest_X7_ofBedNow : GoodIn wsX7_digest wsX7_ofBedNow := goodIn_r _ [106, 7, 6, 15, 72, 73, 74, 25, 75, 62, 76, 77, 78, 79, 80, 81, 82, 83, 84, 85, 86, 87, 88, 164, 165, 166, 167, 168, 169, 170, 171, 172, 173, 174, 175, 176, 177, 178, 179, 184, 185, 186] (by decide +kernel) (by decide +kernel)
set_option maxRecDepth 20000 in
theorem gX7_digest_X7_ofBedNow : GoodIn wsX7_digest (wsV RX7 223 RX7 yX7_ofBedNow wsX7_ofBedNow) := goodIn_app (goodIn_of _ (by decide +kernel)) ggX7_digest_X7_ofBedNow
set_option maxRecDepth 20000 in
theorem ggX7_digest_X7_dryNow : GoodIn wsX7_digest wsX7_dryNow := goodIn_r _ [110, 7, 6, 111, 112, 113, 114, 115, 16, 72, 73, 74, 25, 75, 62, 76, 77, 78, 79, 80, 81, 82, 83, 84, 85, 86, 87, 88, 116, 117, 12, 118, 119, 120, 121, 122, 123, 124, 125, 126, 127, 128, 164, 165, 166, 167, 168, 169, 170, 171, 172, 173, 174, 175, 176, 177, 178, 179, 184, 185, 186] (by decide +kernel) (by decide +kernel)
set_option maxRecDepth 20000 in
theorem gX7_digest_X7_dryNow : GoodIn wsX7_digest (wsV RX7 238 RX7 yX7_dryNow wsX7_dryNow) := goodIn_app (goodIn_of _ (by decide +kernel)) ggX7_digest_X7_dryNow
set_option maxRecDepth 20000 in
theorem ggX7_digest_X7_ofLotNow : GoodIn wsX7_digest wsX7_ofLotNow := goodIn_r _ [132, 8, 6, 15, 72, 73, 74, 25, 75, 62, 76, 77, 78, 79, 80, 81, 82, 83, 84, 85, 86, 87, 88, 93, 94, 12, 95, 133, 134, 135, 136, 137, 138, 139, 140, 141, 4, 119, 120, 121, 122, 58, 59, 60, 61, 142, 143, 144, 145, 146, 147, 164, 165, 166, 167, 168, 169, 170, 171, 172, 173, 174, 175, 176, 177, 178, 179, 184, 185, 186] (by decide +kernel) (by decide +kernel)
set_option maxRecDepth 20000 in
theorem gX7_digest_X7_ofLotNow : GoodIn wsX7_digest (wsV RX7 229 RX7 yX7_ofLotNow wsX7_ofLotNow) := goodIn_app (goodIn_of _ (by decide +kernel)) ggX7_digest_X7_ofLotNow
set_option maxRecDepth 20000 in
theorem ggX7_digest_Jx4a65c_get_915e3 : GoodIn wsX7_digest wsJx4a65c_get_915e3 := goodIn_r _ [75, 62, 76, 77, 78, 79, 80, 81, 82, 83, 84, 85, 86, 25, 87, 88, 184, 185, 186] (by decide +kernel) (by decide +kernel)
set_option maxRecDepth 20000 in
theorem gX7_digest_Jx4a65c_get_915e3 : GoodIn wsX7_digest (wsV RX7 68 RJx4a65c yJx4a65c_get_915e3 wsJx4a65c_get_915e3) := goodIn_app (goodIn_of _ (by decide +kernel)) ggX7_digest_Jx4a65c_get_915e3
set_option maxRecDepth 20000 in
theorem ggX7_digest_X7_bestNow : GoodIn wsX7_digest wsX7_bestNow := goodIn_r _ [151, 8, 6, 58, 59, 60, 25, 61, 62, 72, 73, 74, 75, 76, 77, 78, 79, 80, 81, 82, 83, 84, 85, 86, 87, 88, 152, 153, 12, 154, 55, 56, 57, 155, 156, 157, 111, 112, 113, 114, 115, 119, 120, 121, 122, 158, 159, 160, 161, 162, 163, 138, 139, 140, 141, 4, 142, 143, 144, 164, 165, 166, 167, 168, 169, 170, 171, 172, 173, 174, 175, 176, 177, 178, 179, 184, 185, 186] (by decide +kernel) (by decide +kernel)
set_option maxRecDepth 20000 in
theorem gX7_digest_X7_bestNow : GoodIn wsX7_digest (wsV RX7 241 RX7 yX7_bestNow wsX7_bestNow) := goodIn_app (goodIn_of _ (by decide +kernel)) ggX7_digest_X7_bestNow
set_option maxRecDepth 20000 in
theorem ggJxc12de_init_da8c8_Jxa1e45_init_da8c8 : GoodIn wsJxc12de_init_da8c8 wsJxa1e45_init_da8c8 := goodIn_r _ [5, 6, 7, 8] (by decide +kernel) (by decide +kernel)
set_option maxRecDepth 20000 in
theorem gJxc12de_init_da8c8_Jxa1e45_init_da8c8 : GoodIn wsJxc12de_init_da8c8 (wsJxa1e45_init_da8c8) := ggJxc12de_init_da8c8_Jxa1e45_init_da8c8
set_option maxRecDepth 20000 in
theorem ggJx35411_next_0502b_Jx35411_checkForComodification_da8c8 : GoodIn wsJx35411_next_0502b wsJx35411_checkForComodification_da8c8 := goodIn_r _ [9, 2, 10, 11, 12, 13, 14, 15, 16, 17, 18, 19] (by decide +kernel) (by decide +kernel)
set_option maxRecDepth 20000 in
theorem gJx35411_next_0502b_Jx35411_checkForComodification_da8c8 : GoodIn wsJx35411_next_0502b (wsV RJx35411 31 RJx35411 yJx35411_checkForComodification_da8c8 wsJx35411_checkForComodification_da8c8) := goodIn_app (goodIn_of _ (by decide +kernel)) ggJx35411_next_0502b_Jx35411_checkForComodification_da8c8
set_option maxRecDepth 20000 in
theorem ggJx4a65c_init_da8c8_Jxc12de_init_da8c8 : GoodIn wsJx4a65c_init_da8c8 wsJxc12de_init_da8c8 := goodIn_r _ [6, 7, 8, 9, 10, 11, 12, 13, 14, 15, 16, 17] (by decide +kernel) (by decide +kernel)
set_option maxRecDepth 20000 in
theorem gJx4a65c_init_da8c8_Jxc12de_init_da8c8 : GoodIn wsJx4a65c_init_da8c8 (wsJxc12de_init_da8c8) := ggJx4a65c_init_da8c8_Jxc12de_init_da8c8
set_option maxRecDepth 20000 in
theorem ggJx4a65c_grow_92f84_J8_newLength_cabcc : GoodIn wsJx4a65c_grow_92f84 wsJ8_newLength_cabcc := goodIn_r _ [11, 12, 4, 5, 6, 13, 14, 15, 10, 16] (by decide +kernel) (by decide +kernel)
set_option maxRecDepth 20000 in
theorem gJx4a65c_grow_92f84_J8_newLength_cabcc : GoodIn wsJx4a65c_grow_92f84 (va_wsS RJx4a65c 73 yJ8_newLength_cabcc wsJ8_newLength_cabcc) := goodIn_app (goodIn_of _ (by decide +kernel)) ggJx4a65c_grow_92f84_J8_newLength_cabcc
set_option maxRecDepth 20000 in
theorem ggJx4a65c_grow_92f84_J7_copyOf_1904c : GoodIn wsJx4a65c_grow_92f84 wsJ7_copyOf_1904c := goodIn_r _ [20, 21, 22, 23, 24, 25, 26, 19, 27, 28, 29, 30, 31, 5, 32, 33, 34, 35, 36] (by decide +kernel) (by decide +kernel)
set_option maxRecDepth 20000 in
theorem gJx4a65c_grow_92f84_J7_copyOf_1904c : GoodIn wsJx4a65c_grow_92f84 (va_wsS RJx4a65c 66 yJ7_copyOf_1904c wsJ7_copyOf_1904c) := goodIn_app (goodIn_of _ (by decide +kernel)) ggJx4a65c_grow_92f84_J7_copyOf_1904c
set_option maxRecDepth 20000 in
theorem ggJx4a65c_grow_d5877_Jx4a65c_grow_92f84 : GoodIn wsJx4a65c_grow_d5877 wsJx4a65c_grow_92f84 := goodIn_r _ [6, 7, 8, 9, 10, 11, 12, 13, 14, 15, 16, 17, 18, 19, 20, 21, 22, 23, 24, 25, 26, 27, 28, 29, 30, 31, 32, 33, 34, 35, 36, 37, 38, 39, 40, 41, 42, 43, 44, 45] (by decide +kernel) (by decide +kernel)
set_option maxRecDepth 20000 in
theorem gJx4a65c_grow_d5877_Jx4a65c_grow_92f84 : GoodIn wsJx4a65c_grow_d5877 (wsV RJx4a65c 69 RJx4a65c yJx4a65c_grow_92f84 wsJx4a65c_grow_92f84) := goodIn_app (goodIn_of _ (by decide +kernel)) ggJx4a65c_grow_d5877_Jx4a65c_grow_92f84
set_option maxRecDepth 20000 in
theorem ggJx4a65c_get_915e3_J15_checkIndex_7cf53 : GoodIn wsJx4a65c_get_915e3 wsJ15_checkIndex_7cf53 := goodIn_r _ [5, 6, 7, 8, 9] (by decide +kernel) (by decide +kernel)
set_option maxRecDepth 20000 in
theorem gJx4a65c_get_915e3_J15_checkIndex_7cf53 : GoodIn wsJx4a65c_get_915e3 (va_wsS RJx4a65c 118 yJ15_checkIndex_7cf53 wsJ15_checkIndex_7cf53) := goodIn_app (goodIn_of _ (by decide +kernel)) ggJx4a65c_get_915e3_J15_checkIndex_7cf53
set_option maxRecDepth 20000 in
theorem ggJx4a65c_get_915e3_Jx4a65c_elementData_915e3 : GoodIn wsJx4a65c_get_915e3 wsJx4a65c_elementData_915e3 := goodIn_r _ [14, 15, 16, 17, 18] (by decide +kernel) (by decide +kernel)
set_option maxRecDepth 20000 in
theorem gJx4a65c_get_915e3_Jx4a65c_elementData_915e3 : GoodIn wsJx4a65c_get_915e3 (wsV RJx4a65c 123 RJx4a65c yJx4a65c_elementData_915e3 wsJx4a65c_elementData_915e3) := goodIn_app (goodIn_of _ (by decide +kernel)) ggJx4a65c_get_915e3_Jx4a65c_elementData_915e3
set_option maxRecDepth 20000 in
theorem ggJx4a65c_set_bcc79_J15_checkIndex_7cf53 : GoodIn wsJx4a65c_set_bcc79 wsJ15_checkIndex_7cf53 := goodIn_r _ [6, 7, 8, 9, 10] (by decide +kernel) (by decide +kernel)
set_option maxRecDepth 20000 in
theorem gJx4a65c_set_bcc79_J15_checkIndex_7cf53 : GoodIn wsJx4a65c_set_bcc79 (va_wsS RJx4a65c 118 yJ15_checkIndex_7cf53 wsJ15_checkIndex_7cf53) := goodIn_app (goodIn_of _ (by decide +kernel)) ggJx4a65c_set_bcc79_J15_checkIndex_7cf53
set_option maxRecDepth 20000 in
theorem ggJx4a65c_set_bcc79_Jx4a65c_elementData_915e3 : GoodIn wsJx4a65c_set_bcc79 wsJx4a65c_elementData_915e3 := goodIn_r _ [15, 2, 16, 17, 18] (by decide +kernel) (by decide +kernel)
set_option maxRecDepth 20000 in
theorem gJx4a65c_set_bcc79_Jx4a65c_elementData_915e3 : GoodIn wsJx4a65c_set_bcc79 (wsV RJx4a65c 123 RJx4a65c yJx4a65c_elementData_915e3 wsJx4a65c_elementData_915e3) := goodIn_app (goodIn_of _ (by decide +kernel)) ggJx4a65c_set_bcc79_Jx4a65c_elementData_915e3
set_option maxRecDepth 20000 in
theorem ggJx4a65c_add_72be8_Jx4a65c_grow_d5877 : GoodIn wsJx4a65c_add_72be8 wsJx4a65c_grow_d5877 := goodIn_r _ [6, 1, 7, 8, 9, 5, 10, 11, 12, 13, 14, 15, 16, 17, 18, 19, 20, 21, 22, 23, 24, 25, 26, 27, 28, 29, 30, 31, 32, 33, 34, 35, 36, 37, 38, 39, 40, 41, 42, 43, 44, 45, 46, 47, 48, 49] (by decide +kernel) (by decide +kernel)
set_option maxRecDepth 20000 in
theorem gJx4a65c_add_72be8_Jx4a65c_grow_d5877 : GoodIn wsJx4a65c_add_72be8 (wsV RJx4a65c 129 RJx4a65c yJx4a65c_grow_d5877 wsJx4a65c_grow_d5877) := goodIn_app (goodIn_of _ (by decide +kernel)) ggJx4a65c_add_72be8_Jx4a65c_grow_d5877
set_option maxRecDepth 20000 in
theorem ggJx4a65c_add_9ea2d_Jx4a65c_add_72be8 : GoodIn wsJx4a65c_add_9ea2d wsJx4a65c_add_72be8 := goodIn_r _ [9, 4, 10, 11, 12, 8, 13, 14, 15, 16, 17, 3, 18, 19, 20, 21, 22, 23, 24, 25, 26, 27, 28, 29, 30, 31, 32, 33, 34, 35, 36, 37, 38, 39, 40, 41, 42, 43, 44, 45, 46, 47, 48, 49, 50, 51, 52, 53, 54, 55] (by decide +kernel) (by decide +kernel)
set_option maxRecDepth 20000 in
theorem gJx4a65c_add_9ea2d_Jx4a65c_add_72be8 : GoodIn wsJx4a65c_add_9ea2d (wsV RJx4a65c 131 RJx4a65c yJx4a65c_add_72be8 wsJx4a65c_add_72be8) := goodIn_app (goodIn_of _ (by decide +kernel)) ggJx4a65c_add_9ea2d_Jx4a65c_add_72be8
set_option maxRecDepth 20000 in
theorem ggJx4a65c_iterator_32c93_Jx35411_init_45d68 : GoodIn wsJx4a65c_iterator_32c93 wsJx35411_init_45d68 := goodIn_r _ [6, 7, 8, 9, 10, 11, 12, 13, 14, 15, 16, 17, 18, 19, 20, 21] (by decide +kernel) (by decide +kernel)
set_option maxRecDepth 20000 in
theorem gJx4a65c_iterator_32c93_Jx35411_init_45d68 : GoodIn wsJx4a65c_iterator_32c93 (wsJx35411_init_45d68) := ggJx4a65c_iterator_32c93_Jx35411_init_45d68
set_option maxRecDepth 20000 in
theorem ggJ7_copyOf_1904c_J7_copyOf_6403c : GoodIn wsJ7_copyOf_1904c wsJ7_copyOf_6403c := goodIn_r _ [8, 9, 10, 11, 12, 13, 14, 15, 16, 17, 18] (by decide +kernel) (by decide +kernel)
set_option maxRecDepth 20000 in
theorem gJ7_copyOf_1904c_J7_copyOf_6403c : GoodIn wsJ7_copyOf_1904c (va_wsS RJ7 300 yJ7_copyOf_6403c wsJ7_copyOf_6403c) := goodIn_app (goodIn_of _ (by decide +kernel)) ggJ7_copyOf_1904c_J7_copyOf_6403c
set_option maxRecDepth 20000 in
theorem ggJ15_checkIndex_7cf53_J3_checkIndex_8e157 : GoodIn wsJ15_checkIndex_7cf53 wsJ3_checkIndex_8e157 := goodIn_r _ [4] (by decide +kernel) (by decide +kernel)
set_option maxRecDepth 20000 in
theorem gJ15_checkIndex_7cf53_J3_checkIndex_8e157 : GoodIn wsJ15_checkIndex_7cf53 (va_wsS RJ15 105 yJ3_checkIndex_8e157 wsJ3_checkIndex_8e157) := goodIn_app (goodIn_of _ (by decide +kernel)) ggJ15_checkIndex_7cf53_J3_checkIndex_8e157
set_option maxRecDepth 20000 in
theorem ggJ8_newLength_cabcc_J8_hugeLength_7cf53 : GoodIn wsJ8_newLength_cabcc wsJ8_hugeLength_7cf53 := goodIn_r _ [9, 5] (by decide +kernel) (by decide +kernel)
set_option maxRecDepth 20000 in
theorem gJ8_newLength_cabcc_J8_hugeLength_7cf53 : GoodIn wsJ8_newLength_cabcc (va_wsS RJ8 201 yJ8_hugeLength_7cf53 wsJ8_hugeLength_7cf53) := goodIn_app (goodIn_of _ (by decide +kernel)) ggJ8_newLength_cabcc_J8_hugeLength_7cf53
