set_option maxRecDepth 20000 in
theorem ggX1_init_X4_init : GoodIn wsX1_init wsX4_init := goodIn_r _ [16, 17, 2, 3, 18, 19, 20, 21, 22, 23, 24, 25, 26] (by decide +kernel) (by decide +kernel)
set_option maxRecDepth 20000 in
theorem gX1_init_X4_init_n11 : GoodIn wsX1_init (wsX4_init) := ggX1_init_X4_init
set_option maxRecDepth 20000 in
theorem ggX1_takes_X4_isEmpty : GoodIn wsX1_takes wsX4_isEmpty := goodIn_r _ [7, 8, 17, 18, 19, 20] (by decide +kernel) (by decide +kernel)
set_option maxRecDepth 20000 in
theorem gX1_takes_X4_isEmpty : GoodIn wsX1_takes (wsV RX1 41 RX4 yX4_isEmpty wsX4_isEmpty) := goodIn_app (goodIn_of _ (by decide +kernel)) ggX1_takes_X4_isEmpty
set_option maxRecDepth 20000 in
theorem ggX1_empty_X4_clear : GoodIn wsX1_empty wsX4_clear := goodIn_r _ [6, 7, 8, 9, 10, 29, 30, 31, 32] (by decide +kernel) (by decide +kernel)
set_option maxRecDepth 20000 in
theorem gX1_empty_X4_clear : GoodIn wsX1_empty (wsV RX1 45 RX4 yX4_clear wsX4_clear) := goodIn_app (goodIn_of _ (by decide +kernel)) ggX1_empty_X4_clear
set_option maxRecDepth 20000 in
theorem ggX1_empty_X1_begin : GoodIn wsX1_empty wsX1_begin := goodIn_r _ [15, 16, 17, 18, 19, 20, 21, 22, 23, 24, 25, 26, 27, 28] (by decide +kernel) (by decide +kernel)
set_option maxRecDepth 20000 in
theorem gX1_empty_X1_begin : GoodIn wsX1_empty (wsV RX1 48 RX1 yX1_begin wsX1_begin) := goodIn_app (goodIn_of _ (by decide +kernel)) ggX1_empty_X1_begin
set_option maxRecDepth 20000 in
theorem ggX1_passHour_X4_isEmpty : GoodIn wsX1_passHour wsX4_isEmpty := goodIn_r _ [14, 15, 38, 39, 40, 41] (by decide +kernel) (by decide +kernel)
set_option maxRecDepth 20000 in
theorem gX1_passHour_X4_isEmpty : GoodIn wsX1_passHour (wsV RX1 41 RX4 yX4_isEmpty wsX4_isEmpty) := goodIn_app (goodIn_of _ (by decide +kernel)) ggX1_passHour_X4_isEmpty
set_option maxRecDepth 20000 in
theorem ggX1_passHour_X1_driedFrom : GoodIn wsX1_passHour wsX1_driedFrom := goodIn_r _ [20, 2, 21, 22, 6, 23, 24, 25, 26, 19, 27, 28, 1, 29, 30, 31, 32, 33, 34, 35, 36, 37, 38, 39, 40, 41] (by decide +kernel) (by decide +kernel)
set_option maxRecDepth 20000 in
theorem gX1_passHour_X1_driedFrom : GoodIn wsX1_passHour (wsV RX1 58 RX1 yX1_driedFrom wsX1_driedFrom) := goodIn_app (goodIn_of _ (by decide +kernel)) ggX1_passHour_X1_driedFrom
set_option maxRecDepth 20000 in
theorem ggX1_driedFrom_X1_depth : GoodIn wsX1_driedFrom wsX1_depth := goodIn_r _ [10, 11, 12, 13, 14, 15, 16, 17, 18, 19, 20, 21, 22, 23, 24, 25] (by decide +kernel) (by decide +kernel)
set_option maxRecDepth 20000 in
theorem gX1_driedFrom_X1_depth : GoodIn wsX1_driedFrom (wsV RX1 62 RX1 yX1_depth wsX1_depth) := goodIn_app (goodIn_of _ (by decide +kernel)) ggX1_driedFrom_X1_depth
set_option maxRecDepth 20000 in
theorem ggX1_keptKilos_X1_keptOf : GoodIn wsX1_keptKilos wsX1_keptOf := goodIn_r _ [7, 8, 9, 10, 11, 12, 13, 14, 15, 16] (by decide +kernel) (by decide +kernel)
set_option maxRecDepth 20000 in
theorem gX1_keptKilos_X1_keptOf : GoodIn wsX1_keptKilos (wsV RX1 76 RX1 yX1_keptOf wsX1_keptOf) := goodIn_app (goodIn_of _ (by decide +kernel)) ggX1_keptKilos_X1_keptOf
set_option maxRecDepth 20000 in
theorem ggX3_init_X4_init : GoodIn wsX3_init wsX4_init := goodIn_r _ [17, 18, 2, 3, 8, 19, 20, 21, 22, 23, 24, 25, 26] (by decide +kernel) (by decide +kernel)
set_option maxRecDepth 20000 in
theorem gX3_init_X4_init_n11 : GoodIn wsX3_init (wsX4_init) := ggX3_init_X4_init
set_option maxRecDepth 20000 in
theorem ggX3_fillFrom_X1_keptOf : GoodIn wsX3_fillFrom wsX1_keptOf := goodIn_r _ [20, 21, 41, 42, 43, 44, 45, 46, 47, 48] (by decide +kernel) (by decide +kernel)
set_option maxRecDepth 20000 in
theorem gX3_fillFrom_X1_keptOf : GoodIn wsX3_fillFrom (wsV RX3 48 RX1 yX1_keptOf wsX1_keptOf) := goodIn_app (goodIn_of _ (by decide +kernel)) ggX3_fillFrom_X1_keptOf
set_option maxRecDepth 20000 in
theorem ggX3_fillFrom_X1_keptKilos : GoodIn wsX3_fillFrom wsX1_keptKilos := goodIn_r _ [25, 26, 27, 28, 17, 18, 19, 20, 21, 41, 42, 43, 44, 45, 46, 47, 48, 37, 38, 39, 40] (by decide +kernel) (by decide +kernel)
set_option maxRecDepth 20000 in
theorem gX3_fillFrom_X1_keptKilos : GoodIn wsX3_fillFrom (wsV RX3 55 RX1 yX1_keptKilos wsX1_keptKilos) := goodIn_app (goodIn_of _ (by decide +kernel)) ggX3_fillFrom_X1_keptKilos
set_option maxRecDepth 20000 in
theorem ggX3_copyFrom_X4_clear : GoodIn wsX3_copyFrom wsX4_clear := goodIn_r _ [11, 12, 13, 14, 15, 31, 32, 33, 34] (by decide +kernel) (by decide +kernel)
set_option maxRecDepth 20000 in
theorem gX3_copyFrom_X4_clear : GoodIn wsX3_copyFrom (wsV RX3 69 RX4 yX4_clear wsX4_clear) := goodIn_app (goodIn_of _ (by decide +kernel)) ggX3_copyFrom_X4_clear
set_option maxRecDepth 20000 in
theorem ggX3_copyFrom_X4_addMix : GoodIn wsX3_copyFrom wsX4_addMix := goodIn_r _ [19, 14, 15, 12, 13, 20, 21, 22, 31, 32, 33, 34] (by decide +kernel) (by decide +kernel)
set_option maxRecDepth 20000 in
theorem gX3_copyFrom_X4_addMix : GoodIn wsX3_copyFrom (wsV RX3 72 RX4 yX4_addMix wsX4_addMix) := goodIn_app (goodIn_of _ (by decide +kernel)) ggX3_copyFrom_X4_addMix
set_option maxRecDepth 20000 in
theorem ggX3_takeIn_X6_meanByKilos : GoodIn wsX3_takeIn wsX6_meanByKilos := goodIn_r _ [13] (by decide +kernel) (by decide +kernel)
set_option maxRecDepth 20000 in
theorem gX3_takeIn_X6_meanByKilos_n76 : GoodIn wsX3_takeIn (wsX6_meanByKilos) := ggX3_takeIn_X6_meanByKilos
set_option maxRecDepth 20000 in
theorem ggX3_takeIn_X4_addMix : GoodIn wsX3_takeIn wsX4_addMix := goodIn_r _ [18, 19, 20, 21, 22, 11, 12, 13, 31, 32, 33, 34] (by decide +kernel) (by decide +kernel)
set_option maxRecDepth 20000 in
theorem gX3_takeIn_X4_addMix : GoodIn wsX3_takeIn (wsV RX3 72 RX4 yX4_addMix wsX4_addMix) := goodIn_app (goodIn_of _ (by decide +kernel)) ggX3_takeIn_X4_addMix
set_option maxRecDepth 20000 in
theorem ggX3_score_X4_height : GoodIn wsX3_score wsX4_height := goodIn_r _ [11, 12, 13, 14, 41, 42, 43, 44, 45, 46, 47, 48] (by decide +kernel) (by decide +kernel)
set_option maxRecDepth 20000 in
theorem gX3_score_X4_height : GoodIn wsX3_score (wsV RX3 86 RX4 yX4_height wsX4_height) := goodIn_app (goodIn_of _ (by decide +kernel)) ggX3_score_X4_height
set_option maxRecDepth 20000 in
theorem ggX3_score_X3_fault : GoodIn wsX3_score wsX3_fault := goodIn_r _ [19, 1, 20, 2, 21, 22, 23, 24, 25, 18, 26, 27, 28, 29, 30, 31, 32, 33, 34, 35, 36, 37, 38, 39, 40, 41, 42, 43, 44] (by decide +kernel) (by decide +kernel)
set_option maxRecDepth 20000 in
theorem gX3_score_X3_fault : GoodIn wsX3_score (wsV RX3 90 RX3 yX3_fault wsX3_fault) := goodIn_app (goodIn_of _ (by decide +kernel)) ggX3_score_X3_fault
set_option maxRecDepth 20000 in
theorem ggX3_cause_X3_fault : GoodIn wsX3_cause wsX3_fault := goodIn_r _ [5, 6, 7, 8, 9, 10, 11, 12, 13, 4, 14, 15, 16, 17, 18, 19, 20, 21, 22, 23, 24, 25, 26, 27, 28, 29, 30, 31, 32] (by decide +kernel) (by decide +kernel)
set_option maxRecDepth 20000 in
theorem gX3_cause_X3_fault : GoodIn wsX3_cause (wsV RX3 90 RX3 yX3_fault wsX3_fault) := goodIn_app (goodIn_of _ (by decide +kernel)) ggX3_cause_X3_fault
set_option maxRecDepth 20000 in
theorem ggX3_fault_X3_fermentFault : GoodIn wsX3_fault wsX3_fermentFault := goodIn_r _ [10, 11, 17, 18, 19, 20, 21, 22, 23, 24] (by decide +kernel) (by decide +kernel)
set_option maxRecDepth 20000 in
theorem gX3_fault_X3_fermentFault : GoodIn wsX3_fault (wsV RX3 93 RX3 yX3_fermentFault wsX3_fermentFault) := goodIn_app (goodIn_of _ (by decide +kernel)) ggX3_fault_X3_fermentFault
set_option maxRecDepth 20000 in
theorem ggX3_fault_X3_moistureFault : GoodIn wsX3_fault wsX3_moistureFault := goodIn_r _ [15, 16, 17, 18, 19, 20, 21, 22, 23, 24] (by decide +kernel) (by decide +kernel)
set_option maxRecDepth 20000 in
theorem gX3_fault_X3_moistureFault : GoodIn wsX3_fault (wsV RX3 96 RX3 yX3_moistureFault wsX3_moistureFault) := goodIn_app (goodIn_of _ (by decide +kernel)) ggX3_fault_X3_moistureFault
set_option maxRecDepth 20000 in
theorem ggX3_worth_X3_grade : GoodIn wsX3_worth wsX3_grade := goodIn_r _ [7, 8, 15, 16, 17, 18, 19, 20, 21, 22] (by decide +kernel) (by decide +kernel)
set_option maxRecDepth 20000 in
theorem gX3_worth_X3_grade : GoodIn wsX3_worth (wsV RX3 99 RX3 yX3_grade wsX3_grade) := goodIn_app (goodIn_of _ (by decide +kernel)) ggX3_worth_X3_grade
set_option maxRecDepth 20000 in
theorem ggX3_worth_X4_certifiedKilos : GoodIn wsX3_worth wsX4_certifiedKilos := goodIn_r _ [13, 14, 23, 24, 25, 26] (by decide +kernel) (by decide +kernel)
set_option maxRecDepth 20000 in
theorem gX3_worth_X4_certifiedKilos : GoodIn wsX3_worth (wsV RX3 102 RX4 yX4_certifiedKilos wsX4_certifiedKilos) := goodIn_app (goodIn_of _ (by decide +kernel)) ggX3_worth_X4_certifiedKilos
set_option maxRecDepth 20000 in
theorem ggX4_addBasket_X6_meanByKilos : GoodIn wsX4_addBasket wsX6_meanByKilos := goodIn_r _ [10] (by decide +kernel) (by decide +kernel)
set_option maxRecDepth 20000 in
theorem gX4_addBasket_X6_meanByKilos_n33 : GoodIn wsX4_addBasket (wsX6_meanByKilos) := ggX4_addBasket_X6_meanByKilos
set_option maxRecDepth 20000 in
theorem ggX4_addMix_X6_meanByKilos : GoodIn wsX4_addMix wsX6_meanByKilos := goodIn_r _ [7] (by decide +kernel) (by decide +kernel)
set_option maxRecDepth 20000 in
theorem gX4_addMix_X6_meanByKilos_n33 : GoodIn wsX4_addMix (wsX6_meanByKilos) := ggX4_addMix_X6_meanByKilos
set_option maxRecDepth 20000 in
theorem ggX5_init_X4_init : GoodIn wsX5_init wsX4_init := goodIn_r _ [11, 12, 2, 3, 13, 14, 15, 16, 17, 18, 19, 20, 21] (by decide +kernel) (by decide +kernel)
set_option maxRecDepth 20000 in
theorem gX5_init_X4_init_n9 : GoodIn wsX5_init (wsX4_init) := ggX5_init_X4_init
set_option maxRecDepth 20000 in
theorem ggX5_takes_X4_isEmpty : GoodIn wsX5_takes wsX4_isEmpty := goodIn_r _ [8, 9, 13, 14, 15, 16] (by decide +kernel) (by decide +kernel)
set_option maxRecDepth 20000 in
theorem gX5_takes_X4_isEmpty : GoodIn wsX5_takes (wsV RX5 23 RX4 yX4_isEmpty wsX4_isEmpty) := goodIn_app (goodIn_of _ (by decide +kernel)) ggX5_takes_X4_isEmpty
set_option maxRecDepth 20000 in
theorem ggX5_passHour_X4_isEmpty : GoodIn wsX5_passHour wsX4_isEmpty := goodIn_r _ [8, 9, 19, 20, 21, 22] (by decide +kernel) (by decide +kernel)
set_option maxRecDepth 20000 in
theorem gX5_passHour_X4_isEmpty : GoodIn wsX5_passHour (wsV RX5 23 RX4 yX4_isEmpty wsX4_isEmpty) := goodIn_app (goodIn_of _ (by decide +kernel)) ggX5_passHour_X4_isEmpty
set_option maxRecDepth 20000 in
theorem ggX5_passHour_X5_pointsAnHour : GoodIn wsX5_passHour wsX5_pointsAnHour := goodIn_r _ [14, 1, 15, 16, 17, 18, 19, 20, 21, 22] (by decide +kernel) (by decide +kernel)
set_option maxRecDepth 20000 in
theorem gX5_passHour_X5_pointsAnHour : GoodIn wsX5_passHour (wsV RX5 30 RX5 yX5_pointsAnHour wsX5_pointsAnHour) := goodIn_app (goodIn_of _ (by decide +kernel)) ggX5_passHour_X5_pointsAnHour
set_option maxRecDepth 20000 in
theorem ggX5_empty_X4_clear : GoodIn wsX5_empty wsX4_clear := goodIn_r _ [8, 9, 10, 11, 12, 16, 17, 18, 19] (by decide +kernel) (by decide +kernel)
set_option maxRecDepth 20000 in
theorem gX5_empty_X4_clear : GoodIn wsX5_empty (wsV RX5 34 RX4 yX4_clear wsX4_clear) := goodIn_app (goodIn_of _ (by decide +kernel)) ggX5_empty_X4_clear
set_option maxRecDepth 20000 in
theorem ggX6_init_X3_init : GoodIn wsX6_init wsX3_init := goodIn_r _ [39, 40, 2, 3, 41, 42, 43, 44, 17, 45, 46, 47, 48, 49, 50, 51, 52, 53, 54, 55, 56, 57, 58, 141, 142, 143, 144, 112, 113, 114, 115, 116, 117, 118, 119] (by decide +kernel) (by decide +kernel)
set_option maxRecDepth 20000 in
theorem gX6_init_X3_init_n39 : GoodIn wsX6_init (wsX3_init) := ggX6_init_X3_init
set_option maxRecDepth 20000 in
theorem ggX6_init_X2_init : GoodIn wsX6_init wsX2_init := goodIn_r _ [60, 61, 2, 3, 62, 63, 64, 65, 120, 121, 122, 123] (by decide +kernel) (by decide +kernel)
set_option maxRecDepth 20000 in
theorem gX6_init_X2_init_n82 : GoodIn wsX6_init (wsX2_init) := ggX6_init_X2_init
set_option maxRecDepth 20000 in
theorem ggX6_init_X0_init : GoodIn wsX6_init wsX0_init := goodIn_r _ [67, 68, 2, 3, 69, 70, 71, 72, 73, 74, 124, 125, 126, 127, 128, 129] (by decide +kernel) (by decide +kernel)
set_option maxRecDepth 20000 in
theorem gX6_init_X0_init_n83 : GoodIn wsX6_init (wsX0_init) := ggX6_init_X0_init
set_option maxRecDepth 20000 in
theorem ggX6_init_X5_init : GoodIn wsX6_init wsX5_init := goodIn_r _ [76, 77, 2, 3, 78, 42, 43, 79, 80, 81, 52, 53, 54, 17, 55, 56, 57, 58, 141, 142, 143, 144, 130, 131, 132] (by decide +kernel) (by decide +kernel)
set_option maxRecDepth 20000 in
theorem gX6_init_X5_init_n84 : GoodIn wsX6_init (wsX5_init) := ggX6_init_X5_init
set_option maxRecDepth 20000 in
theorem ggX6_init_X1_init : GoodIn wsX6_init wsX1_init := goodIn_r _ [83, 84, 2, 3, 85, 42, 43, 86, 87, 88, 89, 90, 91, 92, 93, 52, 53, 54, 17, 55, 56, 57, 58, 141, 142, 143, 144, 133, 134, 135, 136, 137, 138, 139, 140] (by decide +kernel) (by decide +kernel)
set_option maxRecDepth 20000 in
theorem gX6_init_X1_init_n85 : GoodIn wsX6_init (wsX1_init) := ggX6_init_X1_init
set_option maxRecDepth 20000 in
theorem ggX6_label_X6_farmAt : GoodIn wsX6_label wsX6_farmAt := goodIn_ca (goodIn_r _ [8, 9, 10, 11, 12, 7, 13, 14, 15, 16, 21, 22, 23, 24, 25, 26, 27, 28, 29, 30, 31, 32, 33, 34, 35, 36, 37, 38] (by decide +kernel) (by decide +kernel)) (goodIn_sub (fun _ h => List.mem_cons_of_mem _ (List.mem_append_right _ h)) (by decide +kernel))
set_option maxRecDepth 20000 in
theorem gX6_label_X6_farmAt : GoodIn wsX6_label (wsV RX6 101 RX6 yX6_farmAt wsX6_farmAt) := goodIn_app (goodIn_of _ (by decide +kernel)) ggX6_label_X6_farmAt
set_option maxRecDepth 20000 in
theorem ggX6_bring_X6_farmAt : GoodIn wsX6_bring wsX6_farmAt := goodIn_ca (goodIn_r _ [18, 19, 20, 21, 22, 17, 23, 24, 25, 26, 36, 37, 38, 39, 40, 41, 42, 43, 44, 45, 46, 47, 48, 49, 50, 51, 52, 53] (by decide +kernel) (by decide +kernel)) (goodIn_sub (fun _ h => List.mem_cons_of_mem _ (List.mem_append_right _ h)) (by decide +kernel))
set_option maxRecDepth 20000 in
theorem gX6_bring_X6_farmAt : GoodIn wsX6_bring (wsV RX6 101 RX6 yX6_farmAt wsX6_farmAt) := goodIn_app (goodIn_of _ (by decide +kernel)) ggX6_bring_X6_farmAt
set_option maxRecDepth 20000 in
theorem ggX6_bring_X0_fill : GoodIn wsX6_bring wsX0_fill := goodIn_r _ [31, 32, 33, 34, 35, 58, 59, 60, 61, 62, 63] (by decide +kernel) (by decide +kernel)
set_option maxRecDepth 20000 in
theorem gX6_bring_X0_fill : GoodIn wsX6_bring (wsV RX6 116 RX0 yX0_fill wsX0_fill) := goodIn_app (goodIn_of _ (by decide +kernel)) ggX6_bring_X0_fill
set_option maxRecDepth 20000 in
theorem ggX6_pass_X6_passOneHour : GoodIn wsX6_pass wsX6_passOneHour := goodIn_r _ [10, 5, 11, 12, 13, 14, 15, 16, 9, 17, 18, 19, 20, 21, 22, 23, 24, 25, 26, 27, 28, 29, 30, 31, 32, 33, 34, 35, 36, 37, 38, 39, 40, 41, 42, 43, 44, 45, 46, 47, 48, 49, 50, 51, 52, 53, 54, 55, 56, 57, 58, 59, 60, 61, 62, 63, 64, 65, 66, 67, 68, 69, 70, 71, 72, 73, 74, 75, 76, 77, 78, 79, 80, 81, 82, 83, 84, 85, 86, 87, 88, 89, 90, 91, 92, 93, 94, 95, 96, 97, 98, 99, 100, 101, 102, 103, 104, 105, 106, 107, 108, 109, 110, 111, 112, 113, 114, 115, 116, 117, 118, 119, 120, 121, 122, 123, 124, 125, 126, 127, 128, 129, 130] (by decide +kernel) (by decide +kernel)
set_option maxRecDepth 20000 in
theorem gX6_pass_X6_passOneHour : GoodIn wsX6_pass (wsV RX6 130 RX6 yX6_passOneHour wsX6_passOneHour) := goodIn_app (goodIn_of _ (by decide +kernel)) ggX6_pass_X6_passOneHour
set_option maxRecDepth 20000 in
theorem ggX6_pulp_X6_basketAt : GoodIn wsX6_pulp wsX6_basketAt := goodIn_ca (goodIn_r _ [12, 13, 14, 15, 16, 57, 58, 59, 60, 61, 62, 63, 64, 65, 66, 67, 68, 69, 70, 71, 72, 73, 74] (by decide +kernel) (by decide +kernel)) (goodIn_sub (fun _ h => List.mem_cons_of_mem _ (List.mem_append_right _ h)) (by decide +kernel))
set_option maxRecDepth 20000 in
theorem gX6_pulp_X6_basketAt : GoodIn wsX6_pulp (wsV RX6 141 RX6 yX6_basketAt wsX6_basketAt) := goodIn_app (goodIn_of _ (by decide +kernel)) ggX6_pulp_X6_basketAt
set_option maxRecDepth 20000 in
theorem ggX6_pulp_X6_tankAt : GoodIn wsX6_pulp wsX6_tankAt := goodIn_ca (goodIn_r _ [20, 13, 14, 21, 57, 58, 59, 60, 61, 62, 63, 64, 65, 66, 67, 68, 69, 70, 71, 72, 73, 74] (by decide +kernel) (by decide +kernel)) (goodIn_sub (fun _ h => List.mem_cons_of_mem _ (List.mem_append_right _ h)) (by decide +kernel))
set_option maxRecDepth 20000 in
theorem gX6_pulp_X6_tankAt : GoodIn wsX6_pulp (wsV RX6 145 RX6 yX6_tankAt wsX6_tankAt) := goodIn_app (goodIn_of _ (by decide +kernel)) ggX6_pulp_X6_tankAt
set_option maxRecDepth 20000 in
theorem ggX6_pulp_X5_takes : GoodIn wsX6_pulp wsX5_takes := goodIn_r _ [26, 27, 28, 29, 30, 31, 32, 33, 34, 35, 54, 55, 56, 75, 76, 77, 78] (by decide +kernel) (by decide +kernel)
set_option maxRecDepth 20000 in
theorem gX6_pulp_X5_takes : GoodIn wsX6_pulp (wsV RX6 155 RX5 yX5_takes wsX5_takes) := goodIn_app (goodIn_of _ (by decide +kernel)) ggX6_pulp_X5_takes
set_option maxRecDepth 20000 in
theorem ggX6_pulp_X4_addBasket : GoodIn wsX6_pulp wsX4_addBasket := goodIn_r _ [39, 35, 40, 41, 42, 43, 44, 45, 46, 11, 47, 75, 76, 77, 78, 48, 49, 50, 51, 52, 53] (by decide +kernel) (by decide +kernel)
set_option maxRecDepth 20000 in
theorem gX6_pulp_X4_addBasket : GoodIn wsX6_pulp (wsV RX6 165 RX4 yX4_addBasket wsX4_addBasket) := goodIn_app (goodIn_of _ (by decide +kernel)) ggX6_pulp_X4_addBasket
set_option maxRecDepth 20000 in
theorem ggX6_wash_X6_tankAt : GoodIn wsX6_wash wsX6_tankAt := goodIn_ca (goodIn_r _ [12, 13, 14, 15, 81, 82, 83, 84, 85, 86, 87, 88, 89, 90, 91, 92, 93, 94, 95, 96, 97, 98] (by decide +kernel) (by decide +kernel)) (goodIn_sub (fun _ h => List.mem_cons_of_mem _ (List.mem_append_right _ h)) (by decide +kernel))
set_option maxRecDepth 20000 in
theorem gX6_wash_X6_tankAt : GoodIn wsX6_wash (wsV RX6 145 RX6 yX6_tankAt wsX6_tankAt) := goodIn_app (goodIn_of _ (by decide +kernel)) ggX6_wash_X6_tankAt
set_option maxRecDepth 20000 in
theorem ggX6_wash_X6_bedAt : GoodIn wsX6_wash wsX6_bedAt := goodIn_ca (goodIn_r _ [19, 13, 14, 20, 21, 81, 82, 83, 84, 85, 86, 87, 88, 89, 90, 91, 92, 93, 94, 95, 96, 97, 98] (by decide +kernel) (by decide +kernel)) (goodIn_sub (fun _ h => List.mem_cons_of_mem _ (List.mem_append_right _ h)) (by decide +kernel))
set_option maxRecDepth 20000 in
theorem gX6_wash_X6_bedAt : GoodIn wsX6_wash (wsV RX6 172 RX6 yX6_bedAt wsX6_bedAt) := goodIn_app (goodIn_of _ (by decide +kernel)) ggX6_wash_X6_bedAt
set_option maxRecDepth 20000 in
theorem ggX6_wash_X4_isEmpty : GoodIn wsX6_wash wsX4_isEmpty := goodIn_r _ [26, 27, 69, 70, 71, 72] (by decide +kernel) (by decide +kernel)
set_option maxRecDepth 20000 in
theorem gX6_wash_X4_isEmpty : GoodIn wsX6_wash (wsV RX6 176 RX4 yX4_isEmpty wsX4_isEmpty) := goodIn_app (goodIn_of _ (by decide +kernel)) ggX6_wash_X4_isEmpty
set_option maxRecDepth 20000 in
theorem ggX6_wash_X1_takes : GoodIn wsX6_wash wsX1_takes := goodIn_r _ [32, 33, 34, 35, 23, 24, 25, 26, 27, 73, 74, 75, 76, 77, 78, 79, 80, 69, 70, 71, 72] (by decide +kernel) (by decide +kernel)
set_option maxRecDepth 20000 in
theorem gX6_wash_X1_takes : GoodIn wsX6_wash (wsV RX6 180 RX1 yX1_takes wsX1_takes) := goodIn_app (goodIn_of _ (by decide +kernel)) ggX6_wash_X1_takes
set_option maxRecDepth 20000 in
theorem ggX6_wash_X1_begin : GoodIn wsX6_wash wsX1_begin := goodIn_r _ [39, 40, 41, 42, 43, 44, 73, 74, 75, 76, 77, 78, 79, 80] (by decide +kernel) (by decide +kernel)
set_option maxRecDepth 20000 in
theorem gX6_wash_X1_begin : GoodIn wsX6_wash (wsV RX6 186 RX1 yX1_begin wsX1_begin) := goodIn_app (goodIn_of _ (by decide +kernel)) ggX6_wash_X1_begin
set_option maxRecDepth 20000 in
theorem ggX6_wash_X4_addMix : GoodIn wsX6_wash wsX4_addMix := goodIn_r _ [48, 27, 49, 50, 51, 52, 11, 53, 69, 70, 71, 72] (by decide +kernel) (by decide +kernel)
set_option maxRecDepth 20000 in
theorem gX6_wash_X4_addMix : GoodIn wsX6_wash (wsV RX6 191 RX4 yX4_addMix wsX4_addMix) := goodIn_app (goodIn_of _ (by decide +kernel)) ggX6_wash_X4_addMix
set_option maxRecDepth 20000 in
theorem ggX6_wash_X5_empty : GoodIn wsX6_wash wsX5_empty := goodIn_r _ [58, 59, 60, 61, 62, 63, 64, 25, 65, 50, 51, 27, 49, 66, 67, 68, 69, 70, 71, 72] (by decide +kernel) (by decide +kernel)
set_option maxRecDepth 20000 in
theorem gX6_wash_X5_empty : GoodIn wsX6_wash (wsV RX6 195 RX5 yX5_empty wsX5_empty) := goodIn_app (goodIn_of _ (by decide +kernel)) ggX6_wash_X5_empty
set_option maxRecDepth 20000 in
theorem ggX6_whole_X6_basketAt : GoodIn wsX6_whole wsX6_basketAt := goodIn_ca (goodIn_r _ [11, 12, 13, 14, 15, 74, 75, 76, 77, 78, 79, 80, 81, 82, 83, 84, 85, 86, 87, 88, 89, 90, 91] (by decide +kernel) (by decide +kernel)) (goodIn_sub (fun _ h => List.mem_cons_of_mem _ (List.mem_append_right _ h)) (by decide +kernel))
set_option maxRecDepth 20000 in
theorem gX6_whole_X6_basketAt : GoodIn wsX6_whole (wsV RX6 141 RX6 yX6_basketAt wsX6_basketAt) := goodIn_app (goodIn_of _ (by decide +kernel)) ggX6_whole_X6_basketAt
set_option maxRecDepth 20000 in
theorem ggX6_whole_X6_bedAt : GoodIn wsX6_whole wsX6_bedAt := goodIn_ca (goodIn_r _ [19, 12, 13, 20, 21, 74, 75, 76, 77, 78, 79, 80, 81, 82, 83, 84, 85, 86, 87, 88, 89, 90, 91] (by decide +kernel) (by decide +kernel)) (goodIn_sub (fun _ h => List.mem_cons_of_mem _ (List.mem_append_right _ h)) (by decide +kernel))
set_option maxRecDepth 20000 in
theorem gX6_whole_X6_bedAt : GoodIn wsX6_whole (wsV RX6 172 RX6 yX6_bedAt wsX6_bedAt) := goodIn_app (goodIn_of _ (by decide +kernel)) ggX6_whole_X6_bedAt
set_option maxRecDepth 20000 in
theorem ggX6_whole_X1_takes : GoodIn wsX6_whole wsX1_takes := goodIn_r _ [26, 27, 28, 29, 30, 31, 32, 33, 34, 62, 63, 64, 65, 66, 67, 68, 69, 70, 71, 72, 73] (by decide +kernel) (by decide +kernel)
set_option maxRecDepth 20000 in
theorem gX6_whole_X1_takes : GoodIn wsX6_whole (wsV RX6 180 RX1 yX1_takes wsX1_takes) := goodIn_app (goodIn_of _ (by decide +kernel)) ggX6_whole_X1_takes
set_option maxRecDepth 20000 in
theorem ggX6_whole_X1_begin : GoodIn wsX6_whole wsX1_begin := goodIn_r _ [38, 39, 40, 41, 42, 43, 62, 63, 64, 65, 66, 67, 68, 69] (by decide +kernel) (by decide +kernel)
set_option maxRecDepth 20000 in
theorem gX6_whole_X1_begin : GoodIn wsX6_whole (wsV RX6 186 RX1 yX1_begin wsX1_begin) := goodIn_app (goodIn_of _ (by decide +kernel)) ggX6_whole_X1_begin
set_option maxRecDepth 20000 in
theorem ggX6_whole_X4_addBasket : GoodIn wsX6_whole wsX4_addBasket := goodIn_r _ [47, 34, 48, 49, 50, 51, 52, 53, 54, 10, 55, 70, 71, 72, 73, 56, 57, 58, 59, 60, 61] (by decide +kernel) (by decide +kernel)
set_option maxRecDepth 20000 in
theorem gX6_whole_X4_addBasket : GoodIn wsX6_whole (wsV RX6 165 RX4 yX4_addBasket wsX4_addBasket) := goodIn_app (goodIn_of _ (by decide +kernel)) ggX6_whole_X4_addBasket
set_option maxRecDepth 20000 in
theorem ggX6_turn_X6_bedAt : GoodIn wsX6_turn wsX6_bedAt := goodIn_ca (goodIn_r _ [9, 10, 11, 12, 13, 28, 29, 30, 31, 32, 33, 34, 35, 36, 37, 38, 39, 40, 41, 42, 43, 44, 45] (by decide +kernel) (by decide +kernel)) (goodIn_sub (fun _ h => List.mem_cons_of_mem _ (List.mem_append_right _ h)) (by decide +kernel))
set_option maxRecDepth 20000 in
theorem gX6_turn_X6_bedAt : GoodIn wsX6_turn (wsV RX6 172 RX6 yX6_bedAt wsX6_bedAt) := goodIn_app (goodIn_of _ (by decide +kernel)) ggX6_turn_X6_bedAt
set_option maxRecDepth 20000 in
theorem ggX6_turn_X4_isEmpty : GoodIn wsX6_turn wsX4_isEmpty := goodIn_r _ [18, 19, 46, 47, 48, 49] (by decide +kernel) (by decide +kernel)
set_option maxRecDepth 20000 in
theorem gX6_turn_X4_isEmpty : GoodIn wsX6_turn (wsV RX6 176 RX4 yX4_isEmpty wsX4_isEmpty) := goodIn_app (goodIn_of _ (by decide +kernel)) ggX6_turn_X4_isEmpty
set_option maxRecDepth 20000 in
theorem ggX6_cover_X6_bedAt : GoodIn wsX6_cover wsX6_bedAt := goodIn_ca (goodIn_r _ [6, 7, 8, 9, 10, 19, 20, 21, 22, 23, 24, 25, 26, 27, 28, 29, 30, 31, 32, 33, 34, 35, 36] (by decide +kernel) (by decide +kernel)) (goodIn_sub (fun _ h => List.mem_cons_of_mem _ (List.mem_append_right _ h)) (by decide +kernel))
set_option maxRecDepth 20000 in
theorem gX6_cover_X6_bedAt : GoodIn wsX6_cover (wsV RX6 172 RX6 yX6_bedAt wsX6_bedAt) := goodIn_app (goodIn_of _ (by decide +kernel)) ggX6_cover_X6_bedAt
set_option maxRecDepth 20000 in
theorem ggX6_store_X6_bedAt : GoodIn wsX6_store wsX6_bedAt := goodIn_ca (goodIn_r _ [13, 14, 15, 16, 17, 73, 74, 75, 76, 77, 78, 79, 80, 81, 82, 83, 84, 85, 86, 87, 88, 89, 90] (by decide +kernel) (by decide +kernel)) (goodIn_sub (fun _ h => List.mem_cons_of_mem _ (List.mem_append_right _ h)) (by decide +kernel))
set_option maxRecDepth 20000 in
theorem gX6_store_X6_bedAt : GoodIn wsX6_store (wsV RX6 172 RX6 yX6_bedAt wsX6_bedAt) := goodIn_app (goodIn_of _ (by decide +kernel)) ggX6_store_X6_bedAt
set_option maxRecDepth 20000 in
theorem ggX6_store_X1_keptKilos : GoodIn wsX6_store wsX1_keptKilos := goodIn_r _ [22, 23, 24, 25, 26, 27, 21, 28, 29, 91, 92, 93, 94, 95, 96, 97, 98, 99, 100, 101, 102] (by decide +kernel) (by decide +kernel)
set_option maxRecDepth 20000 in
theorem gX6_store_X1_keptKilos : GoodIn wsX6_store (wsV RX6 209 RX1 yX1_keptKilos wsX1_keptKilos) := goodIn_app (goodIn_of _ (by decide +kernel)) ggX6_store_X1_keptKilos
set_option maxRecDepth 20000 in
theorem ggX6_store_X3_fillFrom : GoodIn wsX6_store wsX3_fillFrom := goodIn_r _ [34, 35, 36, 37, 38, 39, 40, 41, 42, 43, 44, 45, 46, 47, 48, 49, 50, 26, 27, 21, 28, 29, 51, 19, 20, 22, 23, 24, 25, 103, 104, 105, 106, 107, 108, 109, 110, 99, 100, 101, 102, 91, 92, 93, 94, 95, 96, 97, 98] (by decide +kernel) (by decide +kernel)
set_option maxRecDepth 20000 in
theorem gX6_store_X3_fillFrom : GoodIn wsX6_store (wsV RX6 215 RX3 yX3_fillFrom wsX3_fillFrom) := goodIn_app (goodIn_of _ (by decide +kernel)) ggX6_store_X3_fillFrom
set_option maxRecDepth 20000 in
theorem ggX6_store_X1_empty : GoodIn wsX6_store wsX1_empty := goodIn_r _ [55, 23, 56, 57, 58, 59, 60, 61, 62, 63, 64, 65, 66, 67, 21, 68, 29, 69, 70, 71, 72, 91, 92, 93, 94, 95, 96, 97, 98, 99, 100, 101, 102] (by decide +kernel) (by decide +kernel)
set_option maxRecDepth 20000 in
theorem gX6_store_X1_empty : GoodIn wsX6_store (wsV RX6 220 RX1 yX1_empty wsX1_empty) := goodIn_app (goodIn_of _ (by decide +kernel)) ggX6_store_X1_empty
set_option maxRecDepth 20000 in
theorem ggX6_cup_X6_lotAt : GoodIn wsX6_cup wsX6_lotAt := goodIn_ca (goodIn_r _ [11, 12, 13, 14, 15, 63, 64, 65, 66, 67, 68, 69, 70, 71, 72, 73, 74, 75, 76, 77, 78, 79, 80] (by decide +kernel) (by decide +kernel)) (goodIn_sub (fun _ h => List.mem_cons_of_mem _ (List.mem_append_right _ h)) (by decide +kernel))
set_option maxRecDepth 20000 in
theorem gX6_cup_X6_lotAt : GoodIn wsX6_cup (wsV RX6 227 RX6 yX6_lotAt wsX6_lotAt) := goodIn_app (goodIn_of _ (by decide +kernel)) ggX6_cup_X6_lotAt
set_option maxRecDepth 20000 in
theorem ggX6_cup_X6_needTaster : GoodIn wsX6_cup wsX6_needTaster := goodIn_ca (goodIn_r _ [18, 12, 13] (by decide +kernel) (by decide +kernel)) (goodIn_sub (fun _ h => List.mem_cons_of_mem _ (List.mem_append_right _ h)) (by decide +kernel))
set_option maxRecDepth 20000 in
theorem gX6_cup_X6_needTaster : GoodIn wsX6_cup (va_wsS RX6 221 yX6_needTaster wsX6_needTaster) := goodIn_app (goodIn_of _ (by decide +kernel)) ggX6_cup_X6_needTaster
set_option maxRecDepth 20000 in
theorem ggX6_cup_X3_score : GoodIn wsX6_cup wsX3_score := goodIn_r _ [23, 24, 25, 26, 27, 28, 29, 30, 31, 32, 33, 34, 35, 36, 37, 38, 39, 40, 22, 41, 42, 43, 44, 45, 46, 47, 48, 49, 50, 51, 52, 53, 54, 55, 56, 57, 58, 59, 60, 61, 62, 81, 82, 83, 84, 85, 86, 87, 88] (by decide +kernel) (by decide +kernel)
set_option maxRecDepth 20000 in
theorem gX6_cup_X3_score : GoodIn wsX6_cup (wsV RX6 236 RX3 yX3_score wsX3_score) := goodIn_app (goodIn_of _ (by decide +kernel)) ggX6_cup_X3_score
set_option maxRecDepth 20000 in
theorem ggX6_blend_X6_lotAt : GoodIn wsX6_blend wsX6_lotAt := goodIn_ca (goodIn_r _ [12, 13, 14, 15, 16, 70, 71, 72, 73, 74, 75, 76, 77, 78, 79, 80, 81, 82, 83, 84, 85, 86, 87] (by decide +kernel) (by decide +kernel)) (goodIn_sub (fun _ h => List.mem_cons_of_mem _ (List.mem_append_right _ h)) (by decide +kernel))
set_option maxRecDepth 20000 in
theorem gX6_blend_X6_lotAt : GoodIn wsX6_blend (wsV RX6 227 RX6 yX6_lotAt wsX6_lotAt) := goodIn_app (goodIn_of _ (by decide +kernel)) ggX6_blend_X6_lotAt
set_option maxRecDepth 20000 in
theorem ggX6_blend_X3_canBlendWith : GoodIn wsX6_blend wsX3_canBlendWith := goodIn_r _ [21, 22, 23, 58, 59, 60, 61, 62, 63, 64, 65] (by decide +kernel) (by decide +kernel)
set_option maxRecDepth 20000 in
theorem gX6_blend_X3_canBlendWith : GoodIn wsX6_blend (wsV RX6 245 RX3 yX3_canBlendWith wsX3_canBlendWith) := goodIn_app (goodIn_of _ (by decide +kernel)) ggX6_blend_X3_canBlendWith
set_option maxRecDepth 20000 in
theorem ggX6_blend_X3_takeIn : GoodIn wsX6_blend wsX3_takeIn := goodIn_r _ [27, 28, 29, 30, 31, 32, 33, 34, 35, 36, 37, 38, 11, 39, 40, 41, 42, 43, 44, 45, 46, 47, 48, 58, 59, 60, 61, 62, 63, 64, 65, 66, 67, 68, 69] (by decide +kernel) (by decide +kernel)
set_option maxRecDepth 20000 in
theorem gX6_blend_X3_takeIn : GoodIn wsX6_blend (wsV RX6 251 RX3 yX3_takeIn wsX3_takeIn) := goodIn_app (goodIn_of _ (by decide +kernel)) ggX6_blend_X3_takeIn
set_option maxRecDepth 20000 in
theorem ggX6_blend_X3_forgetReadings : GoodIn wsX6_blend wsX3_forgetReadings := goodIn_r _ [52, 53, 58, 59, 60, 61, 62, 63, 64, 65] (by decide +kernel) (by decide +kernel)
set_option maxRecDepth 20000 in
theorem gX6_blend_X3_forgetReadings : GoodIn wsX6_blend (wsV RX6 255 RX3 yX3_forgetReadings wsX3_forgetReadings) := goodIn_app (goodIn_of _ (by decide +kernel)) ggX6_blend_X3_forgetReadings
set_option maxRecDepth 20000 in
theorem ggX6_blend_X4_clear : GoodIn wsX6_blend wsX4_clear := goodIn_r _ [57, 47, 48, 45, 46, 66, 67, 68, 69] (by decide +kernel) (by decide +kernel)
set_option maxRecDepth 20000 in
theorem gX6_blend_X4_clear : GoodIn wsX6_blend (wsV RX6 258 RX4 yX4_clear wsX4_clear) := goodIn_app (goodIn_of _ (by decide +kernel)) ggX6_blend_X4_clear
set_option maxRecDepth 20000 in
theorem ggX6_sell_X6_lotAt : GoodIn wsX6_sell wsX6_lotAt := goodIn_ca (goodIn_r _ [13, 14, 15, 16, 17, 49, 50, 51, 52, 53, 54, 55, 56, 57, 58, 59, 60, 61, 62, 63, 64, 65, 66] (by decide +kernel) (by decide +kernel)) (goodIn_sub (fun _ h => List.mem_cons_of_mem _ (List.mem_append_left _ (List.mem_append_left _ (List.mem_append_right _ h)))) (by decide +kernel))
set_option maxRecDepth 20000 in
theorem gX6_sell_X6_lotAt : GoodIn wsX6_sell (wsV RX6 227 RX6 yX6_lotAt wsX6_lotAt) := goodIn_app (goodIn_of _ (by decide +kernel)) ggX6_sell_X6_lotAt
set_option maxRecDepth 20000 in
theorem ggX6_sell_X6_needSale : GoodIn wsX6_sell wsX6_needSale := goodIn_ca (goodIn_ca (goodIn_r _ [20, 21, 22, 23, 24, 8, 25, 26, 27, 28, 29, 30, 71, 72, 73, 74, 75, 76, 77, 78] (by decide +kernel) (by decide +kernel)) (goodIn_sub (fun _ h => List.mem_cons_of_mem _ (List.mem_append_left _ (List.mem_append_right _ h))) (by decide +kernel))) (goodIn_sub (fun _ h => List.mem_cons_of_mem _ (List.mem_append_right _ h)) (by decide +kernel))
set_option maxRecDepth 20000 in
theorem gX6_sell_X6_needSale : GoodIn wsX6_sell (va_wsS RX6 261 yX6_needSale wsX6_needSale) := goodIn_app (goodIn_of _ (by decide +kernel)) ggX6_sell_X6_needSale
set_option maxRecDepth 20000 in
theorem ggX6_sell_X3_worth : GoodIn wsX6_sell wsX3_worth := goodIn_r _ [34, 35, 36, 37, 26, 27, 28, 29, 30, 38, 39, 40, 41, 42, 43, 71, 72, 73, 74, 75, 76, 77, 78, 79, 80, 81, 82] (by decide +kernel) (by decide +kernel)
set_option maxRecDepth 20000 in
theorem gX6_sell_X3_worth : GoodIn wsX6_sell (wsV RX6 265 RX3 yX3_worth wsX3_worth) := goodIn_app (goodIn_of _ (by decide +kernel)) ggX6_sell_X3_worth
set_option maxRecDepth 20000 in
theorem ggX6_sell_X3_shareOf : GoodIn wsX6_sell wsX3_shareOf := goodIn_r _ [47, 35, 36, 48, 71, 72, 73, 74, 75, 76, 77, 78, 79, 80, 81, 82] (by decide +kernel) (by decide +kernel)
set_option maxRecDepth 20000 in
theorem gX6_sell_X3_shareOf : GoodIn wsX6_sell (wsV RX6 269 RX3 yX3_shareOf wsX3_shareOf) := goodIn_app (goodIn_of _ (by decide +kernel)) ggX6_sell_X3_shareOf
set_option maxRecDepth 20000 in
theorem ggX6_ofFarm_X6_farmAt : GoodIn wsX6_ofFarm wsX6_farmAt := goodIn_ca (goodIn_r _ [11, 12, 13, 14, 15, 10, 16, 17, 18, 19, 33, 34, 35, 36, 37, 38, 39, 40, 41, 42, 43, 44, 45, 46, 47, 48, 49, 50] (by decide +kernel) (by decide +kernel)) (goodIn_sub (fun _ h => List.mem_cons_of_mem _ (List.mem_append_right _ h)) (by decide +kernel))
set_option maxRecDepth 20000 in
theorem gX6_ofFarm_X6_farmAt : GoodIn wsX6_ofFarm (wsV RX6 101 RX6 yX6_farmAt wsX6_farmAt) := goodIn_app (goodIn_of _ (by decide +kernel)) ggX6_ofFarm_X6_farmAt
set_option maxRecDepth 20000 in
theorem ggX6_ofFarm_X6_kilosInStore : GoodIn wsX6_ofFarm wsX6_kilosInStore := goodIn_r _ [23, 24, 25, 26, 27, 28, 33, 34, 35, 36, 37, 38, 39, 40, 41, 42, 43, 44, 45, 46, 47, 48, 49, 50, 51, 52, 53, 54, 55, 56, 57, 58, 59, 60, 61, 62] (by decide +kernel) (by decide +kernel)
set_option maxRecDepth 20000 in
theorem gX6_ofFarm_X6_kilosInStore : GoodIn wsX6_ofFarm (wsV RX6 272 RX6 yX6_kilosInStore wsX6_kilosInStore) := goodIn_app (goodIn_of _ (by decide +kernel)) ggX6_ofFarm_X6_kilosInStore
set_option maxRecDepth 20000 in
theorem ggX6_ofBasket_X6_basketAt : GoodIn wsX6_ofBasket wsX6_basketAt := goodIn_ca (goodIn_r _ [13, 14, 15, 16, 17, 24, 25, 26, 27, 28, 29, 30, 31, 32, 33, 34, 35, 36, 37, 38, 39, 40, 41] (by decide +kernel) (by decide +kernel)) (goodIn_sub (fun _ h => List.mem_cons_of_mem _ (List.mem_append_right _ h)) (by decide +kernel))
set_option maxRecDepth 20000 in
theorem gX6_ofBasket_X6_basketAt : GoodIn wsX6_ofBasket (wsV RX6 141 RX6 yX6_basketAt wsX6_basketAt) := goodIn_app (goodIn_of _ (by decide +kernel)) ggX6_ofBasket_X6_basketAt
set_option maxRecDepth 20000 in
theorem ggX6_ofTank_X6_tankAt : GoodIn wsX6_ofTank wsX6_tankAt := goodIn_ca (goodIn_r _ [12, 13, 14, 15, 29, 30, 31, 32, 33, 34, 35, 36, 37, 38, 39, 40, 41, 42, 43, 44, 45, 46] (by decide +kernel) (by decide +kernel)) (goodIn_sub (fun _ h => List.mem_cons_of_mem _ (List.mem_append_right _ h)) (by decide +kernel))
set_option maxRecDepth 20000 in
theorem gX6_ofTank_X6_tankAt : GoodIn wsX6_ofTank (wsV RX6 145 RX6 yX6_tankAt wsX6_tankAt) := goodIn_app (goodIn_of _ (by decide +kernel)) ggX6_ofTank_X6_tankAt
set_option maxRecDepth 20000 in
theorem ggX6_ofTank_X4_certifiedKilos : GoodIn wsX6_ofTank wsX4_certifiedKilos := goodIn_r _ [20, 21, 25, 26, 27, 28] (by decide +kernel) (by decide +kernel)
set_option maxRecDepth 20000 in
theorem gX6_ofTank_X4_certifiedKilos : GoodIn wsX6_ofTank (wsV RX6 294 RX4 yX4_certifiedKilos wsX4_certifiedKilos) := goodIn_app (goodIn_of _ (by decide +kernel)) ggX6_ofTank_X4_certifiedKilos
set_option maxRecDepth 20000 in
theorem ggX6_ofBed_X6_bedAt : GoodIn wsX6_ofBed wsX6_bedAt := goodIn_ca (goodIn_r _ [16, 17, 18, 19, 20, 33, 34, 35, 36, 37, 38, 39, 40, 41, 42, 43, 44, 45, 46, 47, 48, 49, 50] (by decide +kernel) (by decide +kernel)) (goodIn_sub (fun _ h => List.mem_cons_of_mem _ (List.mem_append_right _ h)) (by decide +kernel))
set_option maxRecDepth 20000 in
theorem gX6_ofBed_X6_bedAt : GoodIn wsX6_ofBed (wsV RX6 172 RX6 yX6_bedAt wsX6_bedAt) := goodIn_app (goodIn_of _ (by decide +kernel)) ggX6_ofBed_X6_bedAt
set_option maxRecDepth 20000 in
theorem ggX6_ofLot_X6_lotAt : GoodIn wsX6_ofLot wsX6_lotAt := goodIn_ca (goodIn_r _ [17, 18, 19, 20, 21, 88, 89, 90, 91, 92, 93, 94, 95, 96, 97, 98, 99, 100, 101, 102, 103, 104, 105] (by decide +kernel) (by decide +kernel)) (goodIn_sub (fun _ h => List.mem_cons_of_mem _ (List.mem_append_right _ h)) (by decide +kernel))
set_option maxRecDepth 20000 in
theorem gX6_ofLot_X6_lotAt : GoodIn wsX6_ofLot (wsV RX6 227 RX6 yX6_lotAt wsX6_lotAt) := goodIn_app (goodIn_of _ (by decide +kernel)) ggX6_ofLot_X6_lotAt
set_option maxRecDepth 20000 in
theorem ggX6_ofLot_X4_certifiedKilos : GoodIn wsX6_ofLot wsX4_certifiedKilos := goodIn_r _ [26, 27, 84, 85, 86, 87] (by decide +kernel) (by decide +kernel)
set_option maxRecDepth 20000 in
theorem gX6_ofLot_X4_certifiedKilos : GoodIn wsX6_ofLot (wsV RX6 294 RX4 yX4_certifiedKilos wsX4_certifiedKilos) := goodIn_app (goodIn_of _ (by decide +kernel)) ggX6_ofLot_X4_certifiedKilos
set_option maxRecDepth 20000 in
theorem ggX6_ofLot_X3_grade : GoodIn wsX6_ofLot wsX3_grade := goodIn_r _ [32, 33, 76, 77, 78, 79, 80, 81, 82, 83] (by decide +kernel) (by decide +kernel)
set_option maxRecDepth 20000 in
theorem gX6_ofLot_X3_grade : GoodIn wsX6_ofLot (wsV RX6 314 RX3 yX3_grade wsX3_grade) := goodIn_app (goodIn_of _ (by decide +kernel)) ggX6_ofLot_X3_grade
set_option maxRecDepth 20000 in
theorem ggX6_ofLot_X4_isEmpty : GoodIn wsX6_ofLot wsX4_isEmpty := goodIn_r _ [37, 38, 84, 85, 86, 87] (by decide +kernel) (by decide +kernel)
set_option maxRecDepth 20000 in
theorem gX6_ofLot_X4_isEmpty : GoodIn wsX6_ofLot (wsV RX6 176 RX4 yX4_isEmpty wsX4_isEmpty) := goodIn_app (goodIn_of _ (by decide +kernel)) ggX6_ofLot_X4_isEmpty
set_option maxRecDepth 20000 in
theorem ggX6_ofLot_X3_score : GoodIn wsX6_ofLot wsX3_score := goodIn_r _ [42, 43, 44, 45, 46, 47, 48, 49, 50, 51, 25, 52, 53, 54, 38, 55, 56, 57, 31, 58, 59, 60, 61, 62, 63, 64, 65, 66, 67, 68, 69, 70, 71, 76, 77, 78, 79, 80, 81, 82, 83, 84, 85, 86, 87, 106, 107, 108, 109] (by decide +kernel) (by decide +kernel)
set_option maxRecDepth 20000 in
theorem gX6_ofLot_X3_score : GoodIn wsX6_ofLot (wsV RX6 236 RX3 yX3_score wsX3_score) := goodIn_app (goodIn_of _ (by decide +kernel)) ggX6_ofLot_X3_score
set_option maxRecDepth 20000 in
theorem ggX6_ofLot_X3_cause : GoodIn wsX6_ofLot wsX3_cause := goodIn_r _ [75, 55, 56, 57, 31, 58, 43, 59, 44, 60, 61, 62, 63, 64, 65, 66, 67, 68, 69, 70, 71, 76, 77, 78, 79, 80, 81, 82, 83, 84, 85, 86, 87] (by decide +kernel) (by decide +kernel)
set_option maxRecDepth 20000 in
theorem gX6_ofLot_X3_cause : GoodIn wsX6_ofLot (wsV RX6 317 RX3 yX3_cause wsX3_cause) := goodIn_app (goodIn_of _ (by decide +kernel)) ggX6_ofLot_X3_cause
set_option maxRecDepth 20000 in
theorem ggX6_kilosOf_X6_lotAt : GoodIn wsX6_kilosOf wsX6_lotAt := goodIn_ca (goodIn_r _ [7, 8, 9, 10, 11, 29, 30, 31, 32, 33, 34, 35, 36, 37, 38, 39, 40, 41, 42, 43, 44, 45, 46] (by decide +kernel) (by decide +kernel)) (goodIn_sub (fun _ h => List.mem_cons_of_mem _ (List.mem_append_right _ h)) (by decide +kernel))
set_option maxRecDepth 20000 in
theorem gX6_kilosOf_X6_lotAt : GoodIn wsX6_kilosOf (wsV RX6 227 RX6 yX6_lotAt wsX6_lotAt) := goodIn_app (goodIn_of _ (by decide +kernel)) ggX6_kilosOf_X6_lotAt
set_option maxRecDepth 20000 in
theorem ggX6_kilosOf_X6_needFarm : GoodIn wsX6_kilosOf wsX6_needFarm := goodIn_ca (goodIn_r _ [15, 8, 9, 16, 29, 30, 31, 32, 33, 34, 35, 36, 37, 38, 39, 40, 41, 42, 43, 44, 45, 46] (by decide +kernel) (by decide +kernel)) (goodIn_sub (fun _ h => List.mem_cons_of_mem _ (List.mem_append_right _ h)) (by decide +kernel))
set_option maxRecDepth 20000 in
theorem gX6_kilosOf_X6_needFarm : GoodIn wsX6_kilosOf (wsV RX6 322 RX6 yX6_needFarm wsX6_needFarm) := goodIn_app (goodIn_of _ (by decide +kernel)) ggX6_kilosOf_X6_needFarm
set_option maxRecDepth 20000 in
theorem ggX6_many_X6_lotsInStore : GoodIn wsX6_many wsX6_lotsInStore := goodIn_r _ [17, 7, 18, 19, 51, 52, 53, 54, 55, 56, 57, 58, 59, 60, 61, 62, 63, 64, 65, 66, 67, 68, 69, 70, 71, 72, 73, 74, 75, 76] (by decide +kernel) (by decide +kernel)
set_option maxRecDepth 20000 in
theorem gX6_many_X6_lotsInStore : GoodIn wsX6_many (wsV RX6 328 RX6 yX6_lotsInStore wsX6_lotsInStore) := goodIn_app (goodIn_of _ (by decide +kernel)) ggX6_many_X6_lotsInStore
set_option maxRecDepth 20000 in
theorem ggX6_many_X6_waitingKilos : GoodIn wsX6_many wsX6_waitingKilos := goodIn_r _ [23, 5, 24, 25, 26, 51, 52, 53, 54, 55, 56, 57, 58, 59, 60, 61, 62, 63, 64, 65, 66, 67, 68, 77, 78, 79, 80, 81, 82] (by decide +kernel) (by decide +kernel)
set_option maxRecDepth 20000 in
theorem gX6_many_X6_waitingKilos : GoodIn wsX6_many (wsV RX6 331 RX6 yX6_waitingKilos wsX6_waitingKilos) := goodIn_app (goodIn_of _ (by decide +kernel)) ggX6_many_X6_waitingKilos
set_option maxRecDepth 20000 in
theorem ggX6_many_X6_kilosInTanks : GoodIn wsX6_many wsX6_kilosInTanks := goodIn_r _ [30, 31, 32, 33, 51, 52, 53, 54, 55, 56, 57, 58, 59, 60, 61, 62, 63, 64, 65, 66, 67, 68, 83, 84, 85, 86, 87, 88, 89] (by decide +kernel) (by decide +kernel)
set_option maxRecDepth 20000 in
theorem gX6_many_X6_kilosInTanks : GoodIn wsX6_many (wsV RX6 334 RX6 yX6_kilosInTanks wsX6_kilosInTanks) := goodIn_app (goodIn_of _ (by decide +kernel)) ggX6_many_X6_kilosInTanks
set_option maxRecDepth 20000 in
theorem ggX6_many_X6_kilosOnBeds : GoodIn wsX6_many wsX6_kilosOnBeds := goodIn_r _ [37, 6, 38, 39, 33, 51, 52, 53, 54, 55, 56, 57, 58, 59, 60, 61, 62, 63, 64, 65, 66, 67, 68, 90, 91, 92, 93, 94, 95, 96, 97, 86, 87, 88, 89] (by decide +kernel) (by decide +kernel)
set_option maxRecDepth 20000 in
theorem gX6_many_X6_kilosOnBeds : GoodIn wsX6_many (wsV RX6 337 RX6 yX6_kilosOnBeds wsX6_kilosOnBeds) := goodIn_app (goodIn_of _ (by decide +kernel)) ggX6_many_X6_kilosOnBeds
set_option maxRecDepth 20000 in
theorem ggX6_many_X6_allKilosInStore : GoodIn wsX6_many wsX6_allKilosInStore := goodIn_r _ [43, 7, 18, 19, 44, 33, 51, 52, 53, 54, 55, 56, 57, 58, 59, 60, 61, 62, 63, 64, 65, 66, 67, 68, 69, 70, 71, 72, 73, 74, 75, 76, 86, 87, 88, 89] (by decide +kernel) (by decide +kernel)
set_option maxRecDepth 20000 in
theorem gX6_many_X6_allKilosInStore : GoodIn wsX6_many (wsV RX6 340 RX6 yX6_allKilosInStore wsX6_allKilosInStore) := goodIn_app (goodIn_of _ (by decide +kernel)) ggX6_many_X6_allKilosInStore
set_option maxRecDepth 20000 in
theorem ggX6_many_X6_allCoins : GoodIn wsX6_many wsX6_allCoins := goodIn_r _ [48, 4, 49, 50, 51, 52, 53, 54, 55, 56, 57, 58, 59, 60, 61, 62, 63, 64, 65, 66, 67, 68, 98, 99, 100, 101] (by decide +kernel) (by decide +kernel)
set_option maxRecDepth 20000 in
theorem gX6_many_X6_allCoins : GoodIn wsX6_many (wsV RX6 343 RX6 yX6_allCoins wsX6_allCoins) := goodIn_app (goodIn_of _ (by decide +kernel)) ggX6_many_X6_allCoins
set_option maxRecDepth 20000 in
theorem ggX6_readyIn_X6_tankAt : GoodIn wsX6_readyIn wsX6_tankAt := goodIn_ca (goodIn_r _ [7, 8, 9, 10, 32, 33, 34, 35, 36, 37, 38, 39, 40, 41, 42, 43, 44, 45, 46, 47, 48, 49] (by decide +kernel) (by decide +kernel)) (goodIn_sub (fun _ h => List.mem_cons_of_mem _ (List.mem_append_left _ (List.mem_append_right _ h))) (by decide +kernel))
set_option maxRecDepth 20000 in
theorem gX6_readyIn_X6_tankAt : GoodIn wsX6_readyIn (wsV RX6 145 RX6 yX6_tankAt wsX6_tankAt) := goodIn_app (goodIn_of _ (by decide +kernel)) ggX6_readyIn_X6_tankAt
set_option maxRecDepth 20000 in
theorem ggX6_readyIn_X6_needWarmth : GoodIn wsX6_readyIn wsX6_needWarmth := goodIn_ca (goodIn_r _ [13, 14, 15] (by decide +kernel) (by decide +kernel)) (goodIn_sub (fun _ h => List.mem_cons_of_mem _ (List.mem_append_right _ h)) (by decide +kernel))
set_option maxRecDepth 20000 in
theorem gX6_readyIn_X6_needWarmth : GoodIn wsX6_readyIn (va_wsS RX6 348 yX6_needWarmth wsX6_needWarmth) := goodIn_app (goodIn_of _ (by decide +kernel)) ggX6_readyIn_X6_needWarmth
set_option maxRecDepth 20000 in
theorem ggX6_readyIn_X4_isEmpty : GoodIn wsX6_readyIn wsX4_isEmpty := goodIn_r _ [20, 21, 50, 51, 52, 53] (by decide +kernel) (by decide +kernel)
set_option maxRecDepth 20000 in
theorem gX6_readyIn_X4_isEmpty : GoodIn wsX6_readyIn (wsV RX6 176 RX4 yX4_isEmpty wsX4_isEmpty) := goodIn_app (goodIn_of _ (by decide +kernel)) ggX6_readyIn_X4_isEmpty
set_option maxRecDepth 20000 in
theorem ggX6_readyIn_X5_pointsAnHour : GoodIn wsX6_readyIn wsX5_pointsAnHour := goodIn_r _ [26, 27, 28, 29, 30, 31, 50, 51, 52, 53] (by decide +kernel) (by decide +kernel)
set_option maxRecDepth 20000 in
theorem gX6_readyIn_X5_pointsAnHour : GoodIn wsX6_readyIn (wsV RX6 351 RX5 yX5_pointsAnHour wsX5_pointsAnHour) := goodIn_app (goodIn_of _ (by decide +kernel)) ggX6_readyIn_X5_pointsAnHour
set_option maxRecDepth 20000 in
theorem ggX6_dryIn_X6_bedAt : GoodIn wsX6_dryIn wsX6_bedAt := goodIn_ca (goodIn_r _ [8, 9, 10, 11, 12, 49, 50, 51, 52, 53, 54, 55, 56, 57, 58, 59, 60, 61, 62, 63, 64, 65, 66] (by decide +kernel) (by decide +kernel)) (goodIn_sub (fun _ h => List.mem_cons_of_mem _ (List.mem_append_left _ (List.mem_append_right _ h))) (by decide +kernel))
set_option maxRecDepth 20000 in
theorem gX6_dryIn_X6_bedAt : GoodIn wsX6_dryIn (wsV RX6 172 RX6 yX6_bedAt wsX6_bedAt) := goodIn_app (goodIn_of _ (by decide +kernel)) ggX6_dryIn_X6_bedAt
set_option maxRecDepth 20000 in
theorem ggX6_dryIn_X6_needWarmth : GoodIn wsX6_dryIn wsX6_needWarmth := goodIn_ca (goodIn_r _ [15, 16, 17] (by decide +kernel) (by decide +kernel)) (goodIn_sub (fun _ h => List.mem_cons_of_mem _ (List.mem_append_right _ h)) (by decide +kernel))
set_option maxRecDepth 20000 in
theorem gX6_dryIn_X6_needWarmth : GoodIn wsX6_dryIn (va_wsS RX6 348 yX6_needWarmth wsX6_needWarmth) := goodIn_app (goodIn_of _ (by decide +kernel)) ggX6_dryIn_X6_needWarmth
set_option maxRecDepth 20000 in
theorem ggX6_dryIn_X4_isEmpty : GoodIn wsX6_dryIn wsX4_isEmpty := goodIn_r _ [22, 23, 67, 68, 69, 70] (by decide +kernel) (by decide +kernel)
set_option maxRecDepth 20000 in
theorem gX6_dryIn_X4_isEmpty : GoodIn wsX6_dryIn (wsV RX6 176 RX4 yX4_isEmpty wsX4_isEmpty) := goodIn_app (goodIn_of _ (by decide +kernel)) ggX6_dryIn_X4_isEmpty
set_option maxRecDepth 20000 in
theorem ggX6_dryIn_X1_driedFrom : GoodIn wsX6_dryIn wsX1_driedFrom := goodIn_r _ [28, 29, 30, 31, 32, 33, 34, 35, 36, 27, 37, 38, 39, 40, 41, 42, 43, 44, 45, 46, 47, 48, 67, 68, 69, 70] (by decide +kernel) (by decide +kernel)
set_option maxRecDepth 20000 in
theorem gX6_dryIn_X1_driedFrom : GoodIn wsX6_dryIn (wsV RX6 354 RX1 yX1_driedFrom wsX1_driedFrom) := goodIn_app (goodIn_of _ (by decide +kernel)) ggX6_dryIn_X1_driedFrom
set_option maxRecDepth 20000 in
theorem ggX6_bestBlend_X3_canBlendWith : GoodIn wsX6_bestBlend wsX3_canBlendWith := goodIn_r _ [7, 8, 9, 90, 91, 92, 93, 94, 95, 96, 97] (by decide +kernel) (by decide +kernel)
set_option maxRecDepth 20000 in
theorem gX6_bestBlend_X3_canBlendWith : GoodIn wsX6_bestBlend (wsV RX6 245 RX3 yX3_canBlendWith wsX3_canBlendWith) := goodIn_app (goodIn_of _ (by decide +kernel)) ggX6_bestBlend_X3_canBlendWith
set_option maxRecDepth 20000 in
theorem ggX6_bestBlend_X6_blendedScore : GoodIn wsX6_bestBlend wsX6_blendedScore := goodIn_r _ [14, 15, 16, 17, 18, 19, 6, 20, 21, 9, 22, 23, 24, 25, 26, 27, 28, 29, 30, 31, 32, 33, 34, 35, 36, 37, 38, 39, 13, 40, 41, 42, 43, 44, 45, 46, 47, 48, 49, 50, 51, 52, 53, 54, 55, 56, 57, 58, 59, 60, 61, 62, 63, 64, 65, 66, 67, 68, 69, 70, 71, 72, 73, 74, 75, 76, 77, 78, 79, 80, 81, 82, 83, 84, 85, 86, 87, 88, 89, 90, 91, 92, 93, 94, 95, 96, 97, 98, 99, 100, 101, 102, 103, 104, 105] (by decide +kernel) (by decide +kernel)
set_option maxRecDepth 20000 in
theorem gX6_bestBlend_X6_blendedScore : GoodIn wsX6_bestBlend (wsV RX6 358 RX6 yX6_blendedScore wsX6_blendedScore) := goodIn_app (goodIn_of _ (by decide +kernel)) ggX6_bestBlend_X6_blendedScore
set_option maxRecDepth 20000 in
theorem ggX6_digest_X6_many : GoodIn wsX6_digest wsX6_many := goodIn_ca (goodIn_r _ [7, 8, 9, 10, 11, 12, 13, 14, 15, 16, 17, 18, 19, 20, 21, 22, 6, 23, 24, 25, 26, 27, 28, 29, 30, 31, 32, 33, 34, 35, 36, 37, 38, 39, 40, 41, 42, 43, 44, 45, 46, 47, 48, 49, 50, 51, 52, 53, 54, 55, 56, 274, 275, 276, 277, 278, 279, 280, 281, 282, 283, 284, 285, 286, 287, 288, 289, 290, 291, 292, 293, 294, 295, 296, 297, 298, 299, 300, 301, 302, 303, 304, 305, 306, 307, 308, 309, 310, 311, 312, 313, 314, 315, 316, 317, 318, 319, 320, 321, 322, 323, 324] (by decide +kernel) (by decide +kernel)) (goodIn_sub (fun _ h => List.mem_cons_of_mem _ (List.mem_append_left _ (List.mem_append_right _ h))) (by decide +kernel))
set_option maxRecDepth 20000 in
theorem gX6_digest_X6_many : GoodIn wsX6_digest (wsV RX6 366 RX6 yX6_many wsX6_many) := goodIn_app (goodIn_of _ (by decide +kernel)) ggX6_digest_X6_many
set_option maxRecDepth 20000 in
theorem ggX6_digest_X6_digestFarms : GoodIn wsX6_digest wsX6_digestFarms := goodIn_ca (goodIn_ca (goodIn_r _ [60, 11, 2, 61, 62, 63, 6, 64, 8, 9, 65, 66, 56, 67, 68, 69, 70, 71, 55, 72, 73, 74, 75, 76, 77, 78, 79, 80, 81, 14, 24, 25, 50, 82, 274, 275, 276, 277, 278, 279, 280, 281, 282, 283, 284, 285, 286, 287, 288, 289, 290, 291, 321, 322, 323, 324, 292, 293, 294, 295, 296, 297, 298, 299, 309, 310, 311, 312] (by decide +kernel) (by decide +kernel)) (goodIn_sub (fun _ h => List.mem_cons_of_mem _ (List.mem_append_left _ (List.mem_append_right _ h))) (by decide +kernel))) (goodIn_sub (fun _ h => List.mem_cons_of_mem _ (List.mem_append_right _ h)) (by decide +kernel))
set_option maxRecDepth 20000 in
theorem gX6_digest_X6_digestFarms : GoodIn wsX6_digest (wsV RX6 369 RX6 yX6_digestFarms wsX6_digestFarms) := goodIn_app (goodIn_of _ (by decide +kernel)) ggX6_digest_X6_digestFarms
set_option maxRecDepth 20000 in
theorem ggX6_digest_X6_digestBaskets : GoodIn wsX6_digest wsX6_digestBaskets := goodIn_ca (goodIn_ca (goodIn_r _ [86, 12, 2, 87, 88, 89, 6, 90, 8, 9, 91, 32, 92, 31, 93, 94, 95, 96, 97, 98, 76, 77, 30, 274, 275, 276, 277, 278, 279, 280, 281, 282, 283, 284, 285, 286, 287, 288, 289, 290, 291, 300, 301, 302, 303, 304, 305] (by decide +kernel) (by decide +kernel)) (goodIn_sub (fun _ h => List.mem_cons_of_mem _ (List.mem_append_left _ (List.mem_append_right _ h))) (by decide +kernel))) (goodIn_sub (fun _ h => List.mem_cons_of_mem _ (List.mem_append_right _ h)) (by decide +kernel))
set_option maxRecDepth 20000 in
theorem gX6_digest_X6_digestBaskets : GoodIn wsX6_digest (wsV RX6 373 RX6 yX6_digestBaskets wsX6_digestBaskets) := goodIn_app (goodIn_of _ (by decide +kernel)) ggX6_digest_X6_digestBaskets
set_option maxRecDepth 20000 in
theorem ggX6_digest_X6_digestTanks : GoodIn wsX6_digest wsX6_digestTanks := goodIn_ca (goodIn_ca (goodIn_r _ [102, 2, 103, 104, 105, 6, 106, 8, 9, 38, 39, 107, 108, 109, 110, 111, 112, 113, 76, 77, 37, 114, 115, 116, 117, 118, 119, 120, 121, 122, 123, 124, 125, 126, 127, 128, 129, 130, 131, 132, 133, 134, 135, 136, 137, 138, 306, 307, 308, 309, 310, 311, 312, 274, 275, 276, 277, 278, 279, 280, 281, 282, 283, 284, 285, 286, 287, 288, 289, 290, 291] (by decide +kernel) (by decide +kernel)) (goodIn_sub (fun _ h => List.mem_cons_of_mem _ (List.mem_append_left _ (List.mem_append_right _ h))) (by decide +kernel))) (goodIn_sub (fun _ h => List.mem_cons_of_mem _ (List.mem_append_right _ h)) (by decide +kernel))
set_option maxRecDepth 20000 in
theorem gX6_digest_X6_digestTanks : GoodIn wsX6_digest (wsV RX6 376 RX6 yX6_digestTanks wsX6_digestTanks) := goodIn_app (goodIn_of _ (by decide +kernel)) ggX6_digest_X6_digestTanks
set_option maxRecDepth 20000 in
theorem ggX6_digest_X6_digestBeds : GoodIn wsX6_digest wsX6_digestBeds := goodIn_ca (goodIn_ca (goodIn_r _ [142, 13, 2, 143, 144, 145, 6, 146, 8, 9, 147, 148, 45, 39, 149, 150, 151, 152, 153, 154, 155, 156, 157, 76, 77, 44, 158, 159, 160, 161, 10, 124, 125, 126, 127, 128, 129, 117, 130, 131, 162, 163, 164, 165, 166, 167, 168, 169, 170, 171, 172, 173, 174, 175, 176, 177, 178, 274, 275, 276, 277, 278, 279, 280, 281, 282, 283, 284, 285, 286, 287, 288, 289, 290, 291, 313, 314, 315, 316, 317, 318, 319, 320, 309, 310, 311, 312] (by decide +kernel) (by decide +kernel)) (goodIn_sub (fun _ h => List.mem_cons_of_mem _ (List.mem_append_left _ (List.mem_append_right _ h))) (by decide +kernel))) (goodIn_sub (fun _ h => List.mem_cons_of_mem _ (List.mem_append_right _ h)) (by decide +kernel))
set_option maxRecDepth 20000 in
theorem gX6_digest_X6_digestBeds : GoodIn wsX6_digest (wsV RX6 379 RX6 yX6_digestBeds wsX6_digestBeds) := goodIn_app (goodIn_of _ (by decide +kernel)) ggX6_digest_X6_digestBeds
set_option maxRecDepth 20000 in
theorem ggX6_digest_X6_digestLots : GoodIn wsX6_digest wsX6_digestLots := goodIn_ca (goodIn_ca (goodIn_r _ [182, 14, 2, 11, 183, 184, 185, 6, 186, 8, 9, 50, 39, 187, 25, 107, 188, 189, 190, 191, 55, 192, 193, 194, 195, 76, 77, 24, 114, 115, 116, 117, 118, 119, 196, 197, 198, 199, 200, 201, 127, 128, 129, 130, 131, 202, 203, 204, 205, 206, 207, 208, 169, 170, 171, 209, 210, 211, 212, 213, 214, 215, 216, 217, 218, 219, 220, 221, 222, 223, 224, 225, 226, 227, 228, 229, 230, 231, 232, 233, 234, 235, 236, 237, 238, 239, 82, 72, 73, 74, 75, 274, 275, 276, 277, 278, 279, 280, 281, 282, 283, 284, 285, 286, 287, 288, 289, 290, 291, 292, 293, 294, 295, 296, 297, 298, 299, 309, 310, 311, 312, 321, 322, 323, 324] (by decide +kernel) (by decide +kernel)) (goodIn_sub (fun _ h => List.mem_cons_of_mem _ (List.mem_append_left _ (List.mem_append_right _ h))) (by decide +kernel))) (goodIn_sub (fun _ h => List.mem_cons_of_mem _ (List.mem_append_right _ h)) (by decide +kernel))
set_option maxRecDepth 20000 in
theorem gX6_digest_X6_digestLots : GoodIn wsX6_digest (wsV RX6 382 RX6 yX6_digestLots wsX6_digestLots) := goodIn_app (goodIn_of _ (by decide +kernel)) ggX6_digest_X6_digestLots
set_option maxRecDepth 20000 in
theorem ggX6_digest_X6_bestBlend : GoodIn wsX6_digest wsX6_bestBlend := goodIn_r _ [243, 14, 24, 244, 245, 246, 199, 247, 248, 207, 249, 250, 251, 6, 252, 253, 55, 254, 255, 256, 257, 206, 226, 220, 231, 221, 258, 259, 260, 117, 261, 213, 119, 131, 262, 263, 264, 265, 266, 267, 268, 269, 270, 271, 272, 273, 208, 169, 170, 171, 202, 203, 204, 205, 209, 210, 211, 212, 214, 215, 216, 217, 218, 219, 222, 223, 224, 225, 227, 228, 229, 230, 274, 275, 276, 277, 278, 279, 280, 281, 282, 283, 284, 285, 286, 287, 288, 289, 290, 291, 292, 293, 294, 295, 296, 297, 298, 299, 309, 310, 311, 312, 321, 322, 323, 324] (by decide +kernel) (by decide +kernel)
set_option maxRecDepth 20000 in
theorem gX6_digest_X6_bestBlend : GoodIn wsX6_digest (wsV RX6 385 RX6 yX6_bestBlend wsX6_bestBlend) := goodIn_app (goodIn_of _ (by decide +kernel)) ggX6_digest_X6_bestBlend
set_option maxRecDepth 20000 in
theorem ggX6_digestFarms_X6_ofFarm : GoodIn wsX6_digestFarms wsX6_ofFarm := goodIn_ca (goodIn_ca (goodIn_r _ [7, 8, 9, 10, 11, 12, 13, 14, 15, 16, 6, 17, 18, 19, 20, 21, 22, 23, 24, 1, 25, 26, 27, 28, 29, 30, 31, 32, 33, 52, 53, 54, 55, 34, 35, 36, 37, 38, 39, 40, 41, 42, 43, 44, 45, 46, 47, 48, 49, 50, 51, 56, 57, 58, 59, 60, 61, 62, 63, 64, 65, 66, 67] (by decide +kernel) (by decide +kernel)) (goodIn_sub (fun _ h => List.mem_cons_of_mem _ (List.mem_append_left _ (List.mem_append_right _ h))) (by decide +kernel))) (goodIn_sub (fun _ h => List.mem_cons_of_mem _ (List.mem_append_right _ h)) (by decide +kernel))
set_option maxRecDepth 20000 in
theorem gX6_digestFarms_X6_ofFarm : GoodIn wsX6_digestFarms (wsV RX6 388 RX6 yX6_ofFarm wsX6_ofFarm) := goodIn_app (goodIn_of _ (by decide +kernel)) ggX6_digestFarms_X6_ofFarm
set_option maxRecDepth 20000 in
theorem ggX6_digestBaskets_X6_ofBasket : GoodIn wsX6_digestBaskets wsX6_ofBasket := goodIn_ca (goodIn_ca (goodIn_r _ [7, 8, 9, 10, 11, 12, 13, 14, 15, 16, 17, 18, 6, 19, 20, 21, 1, 22, 41, 42, 43, 44, 45, 46, 23, 24, 25, 26, 27, 28, 29, 30, 31, 32, 33, 34, 35, 36, 37, 38, 39, 40] (by decide +kernel) (by decide +kernel)) (goodIn_sub (fun _ h => List.mem_cons_of_mem _ (List.mem_append_left _ (List.mem_append_right _ h))) (by decide +kernel))) (goodIn_sub (fun _ h => List.mem_cons_of_mem _ (List.mem_append_right _ h)) (by decide +kernel))
set_option maxRecDepth 20000 in
theorem gX6_digestBaskets_X6_ofBasket : GoodIn wsX6_digestBaskets (wsV RX6 391 RX6 yX6_ofBasket wsX6_ofBasket) := goodIn_app (goodIn_of _ (by decide +kernel)) ggX6_digestBaskets_X6_ofBasket
set_option maxRecDepth 20000 in
theorem ggX6_digestTanks_X6_ofTank : GoodIn wsX6_digestTanks wsX6_ofTank := goodIn_ca (goodIn_ca (goodIn_r _ [6, 7, 8, 9, 10, 11, 12, 13, 14, 15, 16, 5, 17, 18, 19, 20, 21, 22, 23, 24, 25, 26, 46, 47, 48, 49, 50, 51, 52, 53, 54, 55, 56, 57, 58, 59, 60, 61, 62, 63, 64, 65, 66, 67, 68, 69, 70] (by decide +kernel) (by decide +kernel)) (goodIn_sub (fun _ h => List.mem_cons_of_mem _ (List.mem_append_left _ (List.mem_append_right _ h))) (by decide +kernel))) (goodIn_sub (fun _ h => List.mem_cons_of_mem _ (List.mem_append_right _ h)) (by decide +kernel))
set_option maxRecDepth 20000 in
theorem gX6_digestTanks_X6_ofTank : GoodIn wsX6_digestTanks (wsV RX6 394 RX6 yX6_ofTank wsX6_ofTank) := goodIn_app (goodIn_of _ (by decide +kernel)) ggX6_digestTanks_X6_ofTank
set_option maxRecDepth 20000 in
theorem ggX6_digestTanks_X6_readyIn : GoodIn wsX6_digestTanks wsX6_readyIn := goodIn_ca (goodIn_ca (goodIn_r _ [30, 9, 13, 14, 15, 16, 5, 17, 18, 19, 20, 31, 32, 33, 7, 8, 34, 35, 36, 24, 37, 38, 39, 40, 41, 42, 43, 44, 45, 46, 47, 48, 53, 54, 55, 56, 57, 58, 59, 60, 61, 62, 63, 64, 65, 66, 67, 68, 69, 70, 49, 50, 51, 52] (by decide +kernel) (by decide +kernel)) (goodIn_sub (fun _ h => List.mem_cons_of_mem _ (List.mem_append_right _ h)) (by decide +kernel))) (goodIn_sub (fun _ h => List.mem_cons_of_mem _ (List.mem_append_left _ (List.mem_append_right _ h))) (by decide +kernel))
set_option maxRecDepth 20000 in
theorem gX6_digestTanks_X6_readyIn : GoodIn wsX6_digestTanks (wsV RX6 397 RX6 yX6_readyIn wsX6_readyIn) := goodIn_app (goodIn_of _ (by decide +kernel)) ggX6_digestTanks_X6_readyIn
set_option maxRecDepth 20000 in
theorem ggX6_digestBeds_X6_ofBed : GoodIn wsX6_digestBeds wsX6_ofBed := goodIn_ca (goodIn_ca (goodIn_r _ [7, 8, 9, 10, 11, 12, 13, 14, 15, 16, 17, 18, 19, 20, 21, 6, 22, 23, 24, 1, 25, 75, 76, 77, 78, 79, 80, 81, 82, 83, 84, 85, 86, 57, 58, 59, 60, 61, 62, 63, 64, 65, 66, 67, 68, 69, 70, 71, 72, 73, 74] (by decide +kernel) (by decide +kernel)) (goodIn_sub (fun _ h => List.mem_cons_of_mem _ (List.mem_append_left _ (List.mem_append_right _ h))) (by decide +kernel))) (goodIn_sub (fun _ h => List.mem_cons_of_mem _ (List.mem_append_right _ h)) (by decide +kernel))
set_option maxRecDepth 20000 in
theorem gX6_digestBeds_X6_ofBed : GoodIn wsX6_digestBeds (wsV RX6 400 RX6 yX6_ofBed wsX6_ofBed) := goodIn_app (goodIn_of _ (by decide +kernel)) ggX6_digestBeds_X6_ofBed
set_option maxRecDepth 20000 in
theorem ggX6_digestBeds_X6_dryIn : GoodIn wsX6_digestBeds wsX6_dryIn := goodIn_ca (goodIn_ca (goodIn_r _ [29, 12, 15, 30, 19, 20, 21, 6, 22, 23, 24, 1, 25, 31, 32, 33, 8, 9, 34, 35, 36, 37, 38, 39, 40, 41, 42, 43, 44, 45, 46, 47, 48, 49, 50, 51, 52, 53, 54, 55, 56, 75, 76, 77, 78, 79, 80, 81, 82, 57, 58, 59, 60, 61, 62, 63, 64, 65, 66, 67, 68, 69, 70, 71, 72, 73, 74, 83, 84, 85, 86] (by decide +kernel) (by decide +kernel)) (goodIn_sub (fun _ h => List.mem_cons_of_mem _ (List.mem_append_right _ h)) (by decide +kernel))) (goodIn_sub (fun _ h => List.mem_cons_of_mem _ (List.mem_append_left _ (List.mem_append_right _ h))) (by decide +kernel))
set_option maxRecDepth 20000 in
theorem gX6_digestBeds_X6_dryIn : GoodIn wsX6_digestBeds (wsV RX6 403 RX6 yX6_dryIn wsX6_dryIn) := goodIn_app (goodIn_of _ (by decide +kernel)) ggX6_digestBeds_X6_dryIn
set_option maxRecDepth 20000 in
theorem ggX6_digestLots_X6_ofLot : GoodIn wsX6_digestLots wsX6_ofLot := goodIn_ca (goodIn_ca (goodIn_r _ [8, 9, 10, 11, 12, 13, 14, 15, 16, 17, 18, 19, 20, 21, 22, 23, 7, 24, 25, 26, 1, 27, 28, 29, 30, 31, 32, 33, 34, 35, 36, 37, 38, 39, 40, 41, 42, 43, 44, 45, 46, 47, 48, 49, 50, 51, 52, 53, 54, 55, 56, 57, 58, 59, 60, 61, 62, 63, 64, 65, 66, 67, 68, 69, 70, 71, 72, 73, 74, 75, 76, 77, 78, 79, 80, 81, 109, 110, 111, 112, 113, 114, 115, 116, 117, 118, 119, 120, 91, 92, 93, 94, 95, 96, 97, 98, 99, 100, 101, 102, 103, 104, 105, 106, 107, 108, 121, 122, 123, 124] (by decide +kernel) (by decide +kernel)) (goodIn_sub (fun _ h => List.mem_cons_of_mem _ (List.mem_append_left _ (List.mem_append_right _ h))) (by decide +kernel))) (goodIn_sub (fun _ h => List.mem_cons_of_mem _ (List.mem_append_right _ h)) (by decide +kernel))
set_option maxRecDepth 20000 in
theorem gX6_digestLots_X6_ofLot : GoodIn wsX6_digestLots (wsV RX6 406 RX6 yX6_ofLot wsX6_ofLot) := goodIn_app (goodIn_of _ (by decide +kernel)) ggX6_digestLots_X6_ofLot
set_option maxRecDepth 20000 in
theorem ggX6_digestLots_X6_kilosOf : GoodIn wsX6_digestLots wsX6_kilosOf := goodIn_ca (goodIn_r _ [85, 11, 86, 21, 22, 23, 7, 24, 25, 26, 1, 27, 87, 88, 89, 90, 3, 109, 110, 111, 112, 113, 114, 115, 116, 117, 118, 119, 120, 91, 92, 93, 94, 95, 96, 97, 98, 99, 100, 101, 102, 103, 104, 105, 106, 107, 108] (by decide +kernel) (by decide +kernel)) (goodIn_sub (fun _ h => List.mem_cons_of_mem _ (List.mem_append_right _ h)) (by decide +kernel))
set_option maxRecDepth 20000 in
theorem gX6_digestLots_X6_kilosOf : GoodIn wsX6_digestLots (wsV RX6 409 RX6 yX6_kilosOf wsX6_kilosOf) := goodIn_app (goodIn_of _ (by decide +kernel)) ggX6_digestLots_X6_kilosOf
set_option maxRecDepth 20000 in
theorem ggX6_needSale_X3_grade : GoodIn wsX6_needSale wsX3_grade := goodIn_r _ [10, 11, 12, 13, 14, 15, 16, 17, 18, 19] (by decide +kernel) (by decide +kernel)
set_option maxRecDepth 20000 in
theorem gX6_needSale_X3_grade : GoodIn wsX6_needSale (wsV RX6 314 RX3 yX3_grade wsX3_grade) := goodIn_app (goodIn_of _ (by decide +kernel)) ggX6_needSale_X3_grade
set_option maxRecDepth 20000 in
theorem ggX6_farmAt_X6_needFarm : GoodIn wsX6_farmAt wsX6_needFarm := goodIn_ca (goodIn_r _ [6, 7, 8, 9, 10, 11, 12, 13, 14, 15, 16, 17, 18, 19, 20, 21, 22, 23, 24, 25, 26, 27] (by decide +kernel) (by decide +kernel)) (goodIn_sub (fun _ h => List.mem_cons_of_mem _ (List.mem_append_right _ h)) (by decide +kernel))
set_option maxRecDepth 20000 in
theorem gX6_farmAt_X6_needFarm : GoodIn wsX6_farmAt (wsV RX6 322 RX6 yX6_needFarm wsX6_needFarm) := goodIn_app (goodIn_of _ (by decide +kernel)) ggX6_farmAt_X6_needFarm
set_option maxRecDepth 20000 in
theorem ggX6_passOneHour_X6_ageBaskets : GoodIn wsX6_passOneHour wsX6_ageBaskets := goodIn_r _ [9, 10, 11, 12, 13, 14, 15, 16, 17, 18, 19, 20, 76, 77, 78, 79, 80, 81, 82, 83, 84, 85, 86, 87, 88, 89, 90, 91, 92, 93, 94, 95, 96, 97, 98, 99] (by decide +kernel) (by decide +kernel)
set_option maxRecDepth 20000 in
theorem gX6_passOneHour_X6_ageBaskets : GoodIn wsX6_passOneHour (wsV RX6 433 RX6 yX6_ageBaskets wsX6_ageBaskets) := goodIn_app (goodIn_of _ (by decide +kernel)) ggX6_passOneHour_X6_ageBaskets
set_option maxRecDepth 20000 in
theorem ggX6_passOneHour_X5_passHour : GoodIn wsX6_passOneHour wsX5_passHour := goodIn_r _ [25, 26, 27, 28, 29, 30, 31, 32, 33, 34, 35, 36, 37, 24, 38, 39, 100, 101, 102, 103, 104, 105, 106] (by decide +kernel) (by decide +kernel)
set_option maxRecDepth 20000 in
theorem gX6_passOneHour_X5_passHour : GoodIn wsX6_passOneHour (wsV RX6 436 RX5 yX5_passHour wsX5_passHour) := goodIn_app (goodIn_of _ (by decide +kernel)) ggX6_passOneHour_X5_passHour
set_option maxRecDepth 20000 in
theorem ggX6_passOneHour_X1_passHour : GoodIn wsX6_passOneHour wsX1_passHour := goodIn_r _ [44, 45, 46, 47, 48, 49, 50, 51, 52, 53, 54, 30, 31, 32, 33, 34, 55, 56, 57, 43, 58, 59, 60, 61, 62, 63, 64, 65, 66, 67, 107, 108, 109, 110, 111, 112, 113, 114, 103, 104, 105, 106] (by decide +kernel) (by decide +kernel)
set_option maxRecDepth 20000 in
theorem gX6_passOneHour_X1_passHour : GoodIn wsX6_passOneHour (wsV RX6 439 RX1 yX1_passHour wsX1_passHour) := goodIn_app (goodIn_of _ (by decide +kernel)) ggX6_passOneHour_X1_passHour
set_option maxRecDepth 20000 in
theorem ggX6_passOneHour_X6_ageLots : GoodIn wsX6_passOneHour wsX6_ageLots := goodIn_r _ [71, 72, 73, 74, 75, 76, 77, 78, 79, 80, 81, 82, 83, 84, 85, 86, 87, 88, 89, 90, 91, 92, 93, 115, 116, 117, 118, 119, 120, 121, 122] (by decide +kernel) (by decide +kernel)
set_option maxRecDepth 20000 in
theorem gX6_passOneHour_X6_ageLots : GoodIn wsX6_passOneHour (wsV RX6 441 RX6 yX6_ageLots wsX6_ageLots) := goodIn_app (goodIn_of _ (by decide +kernel)) ggX6_passOneHour_X6_ageLots
set_option maxRecDepth 20000 in
theorem ggX6_ageBaskets_X0_spoilsInHour : GoodIn wsX6_ageBaskets wsX0_spoilsInHour := goodIn_r _ [9, 10, 11, 30, 31, 32, 33, 34, 35] (by decide +kernel) (by decide +kernel)
set_option maxRecDepth 20000 in
theorem gX6_ageBaskets_X0_spoilsInHour : GoodIn wsX6_ageBaskets (wsV RX6 444 RX0 yX0_spoilsInHour wsX0_spoilsInHour) := goodIn_app (goodIn_of _ (by decide +kernel)) ggX6_ageBaskets_X0_spoilsInHour
set_option maxRecDepth 20000 in
theorem ggX6_blendedScore_X3_copyFrom : GoodIn wsX6_blendedScore wsX3_copyFrom := goodIn_r _ [7, 8, 9, 10, 11, 12, 13, 14, 15, 16, 17, 18, 19, 20, 21, 22, 23, 24, 25, 26, 27, 28, 29, 79, 80, 81, 82, 83, 84, 85, 86, 87, 88, 89, 90] (by decide +kernel) (by decide +kernel)
set_option maxRecDepth 20000 in
theorem gX6_blendedScore_X3_copyFrom : GoodIn wsX6_blendedScore (wsV RX6 447 RX3 yX3_copyFrom wsX3_copyFrom) := goodIn_app (goodIn_of _ (by decide +kernel)) ggX6_blendedScore_X3_copyFrom
set_option maxRecDepth 20000 in
theorem ggX6_blendedScore_X3_takeIn : GoodIn wsX6_blendedScore wsX3_takeIn := goodIn_r _ [33, 8, 34, 10, 12, 11, 35, 36, 37, 38, 13, 27, 28, 29, 23, 24, 25, 17, 26, 21, 22, 19, 20, 79, 80, 81, 82, 83, 84, 85, 86, 87, 88, 89, 90] (by decide +kernel) (by decide +kernel)
set_option maxRecDepth 20000 in
theorem gX6_blendedScore_X3_takeIn : GoodIn wsX6_blendedScore (wsV RX6 251 RX3 yX3_takeIn wsX3_takeIn) := goodIn_app (goodIn_of _ (by decide +kernel)) ggX6_blendedScore_X3_takeIn
set_option maxRecDepth 20000 in
theorem ggX6_blendedScore_X3_score : GoodIn wsX6_blendedScore wsX3_score := goodIn_r _ [42, 8, 9, 35, 36, 37, 38, 43, 44, 45, 17, 46, 19, 47, 21, 48, 49, 50, 6, 51, 52, 11, 13, 53, 54, 55, 56, 10, 57, 58, 59, 60, 12, 79, 80, 81, 82, 83, 84, 85, 86, 87, 88, 89, 90, 91, 92, 93, 94] (by decide +kernel) (by decide +kernel)
set_option maxRecDepth 20000 in
theorem gX6_blendedScore_X3_score : GoodIn wsX6_blendedScore (wsV RX6 236 RX3 yX3_score wsX3_score) := goodIn_app (goodIn_of _ (by decide +kernel)) ggX6_blendedScore_X3_score
