theorem dX0_init_0 : decode cX0_init 0 = .ok (.aload_n 0, 1) := by decide +kernel
theorem dX0_init_1 : decode cX0_init 1 = .ok (.invokespecial 3, 3) := by decide +kernel
theorem dX0_init_4 : decode cX0_init 4 = .ok (.aload_n 0, 1) := by decide +kernel
theorem dX0_init_5 : decode cX0_init 5 = .ok (.iconst 0, 1) := by decide +kernel
theorem dX0_init_6 : decode cX0_init 6 = .ok (.putfield 9, 3) := by decide +kernel
theorem dX0_init_9 : decode cX0_init 9 = .ok (.aload_n 0, 1) := by decide +kernel
theorem dX0_init_10 : decode cX0_init 10 = .ok (.iconst 0, 1) := by decide +kernel
theorem dX0_init_11 : decode cX0_init 11 = .ok (.putfield 15, 3) := by decide +kernel
theorem dX0_init_14 : decode cX0_init 14 = .ok (.aload_n 0, 1) := by decide +kernel
theorem dX0_init_15 : decode cX0_init 15 = .ok (.iconst 0, 1) := by decide +kernel
theorem dX0_init_16 : decode cX0_init 16 = .ok (.putfield 18, 3) := by decide +kernel
theorem dX0_init_19 : decode cX0_init 19 = .ok (.aload_n 0, 1) := by decide +kernel
theorem dX0_init_20 : decode cX0_init 20 = .ok (.iconst 0, 1) := by decide +kernel
theorem dX0_init_21 : decode cX0_init 21 = .ok (.putfield 21, 3) := by decide +kernel
theorem dX0_init_24 : decode cX0_init 24 = .ok (.aload_n 0, 1) := by decide +kernel
theorem dX0_init_25 : decode cX0_init 25 = .ok (.iconst 0, 1) := by decide +kernel
theorem dX0_init_26 : decode cX0_init 26 = .ok (.putfield 24, 3) := by decide +kernel
theorem dX0_init_29 : decode cX0_init 29 = .ok (.aload_n 0, 1) := by decide +kernel
theorem dX0_init_30 : decode cX0_init 30 = .ok (.iconst 0, 1) := by decide +kernel
theorem dX0_init_31 : decode cX0_init 31 = .ok (.putfield 27, 3) := by decide +kernel
theorem dX0_init_34 : decode cX0_init 34 = .ok (.return_, 1) := by decide +kernel
theorem dX0_fill_0 : decode cX0_fill 0 = .ok (.aload_n 0, 1) := by decide +kernel
theorem dX0_fill_1 : decode cX0_fill 1 = .ok (.iload_n 1, 1) := by decide +kernel
theorem dX0_fill_2 : decode cX0_fill 2 = .ok (.putfield 9, 3) := by decide +kernel
theorem dX0_fill_5 : decode cX0_fill 5 = .ok (.aload_n 0, 1) := by decide +kernel
theorem dX0_fill_6 : decode cX0_fill 6 = .ok (.iload_n 2, 1) := by decide +kernel
theorem dX0_fill_7 : decode cX0_fill 7 = .ok (.putfield 15, 3) := by decide +kernel
theorem dX0_fill_10 : decode cX0_fill 10 = .ok (.aload_n 0, 1) := by decide +kernel
theorem dX0_fill_11 : decode cX0_fill 11 = .ok (.iload_n 3, 1) := by decide +kernel
theorem dX0_fill_12 : decode cX0_fill 12 = .ok (.putfield 18, 3) := by decide +kernel
theorem dX0_fill_15 : decode cX0_fill 15 = .ok (.aload_n 0, 1) := by decide +kernel
theorem dX0_fill_16 : decode cX0_fill 16 = .ok (.iload 4, 2) := by decide +kernel
theorem dX0_fill_18 : decode cX0_fill 18 = .ok (.putfield 27, 3) := by decide +kernel
theorem dX0_fill_21 : decode cX0_fill 21 = .ok (.return_, 1) := by decide +kernel
theorem dX0_spoilsInHour_0 : decode cX0_spoilsInHour 0 = .ok (.aload_n 0, 1) := by decide +kernel
theorem dX0_spoilsInHour_1 : decode cX0_spoilsInHour 1 = .ok (.getfield 21, 3) := by decide +kernel
theorem dX0_spoilsInHour_4 : decode cX0_spoilsInHour 4 = .ok (.ifCond .eq 5, 3) := by decide +kernel
theorem dX0_spoilsInHour_7 : decode cX0_spoilsInHour 7 = .ok (.iconst 0, 1) := by decide +kernel
theorem dX0_spoilsInHour_8 : decode cX0_spoilsInHour 8 = .ok (.ireturn, 1) := by decide +kernel
theorem dX0_spoilsInHour_9 : decode cX0_spoilsInHour 9 = .ok (.aload_n 0, 1) := by decide +kernel
theorem dX0_spoilsInHour_10 : decode cX0_spoilsInHour 10 = .ok (.dup, 1) := by decide +kernel
theorem dX0_spoilsInHour_11 : decode cX0_spoilsInHour 11 = .ok (.getfield 24, 3) := by decide +kernel
theorem dX0_spoilsInHour_14 : decode cX0_spoilsInHour 14 = .ok (.iconst 1, 1) := by decide +kernel
theorem dX0_spoilsInHour_15 : decode cX0_spoilsInHour 15 = .ok (.iadd, 1) := by decide +kernel
theorem dX0_spoilsInHour_16 : decode cX0_spoilsInHour 16 = .ok (.putfield 24, 3) := by decide +kernel
theorem dX0_spoilsInHour_19 : decode cX0_spoilsInHour 19 = .ok (.aload_n 0, 1) := by decide +kernel
theorem dX0_spoilsInHour_20 : decode cX0_spoilsInHour 20 = .ok (.getfield 24, 3) := by decide +kernel
theorem dX0_spoilsInHour_23 : decode cX0_spoilsInHour 23 = .ok (.bipush 24, 2) := by decide +kernel
theorem dX0_spoilsInHour_25 : decode cX0_spoilsInHour 25 = .ok (.if_icmp .gt 5, 3) := by decide +kernel
theorem dX0_spoilsInHour_28 : decode cX0_spoilsInHour 28 = .ok (.iconst 0, 1) := by decide +kernel
theorem dX0_spoilsInHour_29 : decode cX0_spoilsInHour 29 = .ok (.ireturn, 1) := by decide +kernel
theorem dX0_spoilsInHour_30 : decode cX0_spoilsInHour 30 = .ok (.aload_n 0, 1) := by decide +kernel
theorem dX0_spoilsInHour_31 : decode cX0_spoilsInHour 31 = .ok (.iconst 3, 1) := by decide +kernel
theorem dX0_spoilsInHour_32 : decode cX0_spoilsInHour 32 = .ok (.putfield 21, 3) := by decide +kernel
theorem dX0_spoilsInHour_35 : decode cX0_spoilsInHour 35 = .ok (.iconst 1, 1) := by decide +kernel
theorem dX0_spoilsInHour_36 : decode cX0_spoilsInHour 36 = .ok (.ireturn, 1) := by decide +kernel
theorem dX1_init_0 : decode cX1_init 0 = .ok (.aload_n 0, 1) := by decide +kernel
theorem dX1_init_1 : decode cX1_init 1 = .ok (.invokespecial 3, 3) := by decide +kernel
theorem dX1_init_4 : decode cX1_init 4 = .ok (.aload_n 0, 1) := by decide +kernel
theorem dX1_init_5 : decode cX1_init 5 = .ok (.new 9, 3) := by decide +kernel
theorem dX1_init_8 : decode cX1_init 8 = .ok (.dup, 1) := by decide +kernel
theorem dX1_init_9 : decode cX1_init 9 = .ok (.invokespecial 11, 3) := by decide +kernel
theorem dX1_init_12 : decode cX1_init 12 = .ok (.putfield 12, 3) := by decide +kernel
theorem dX1_init_15 : decode cX1_init 15 = .ok (.aload_n 0, 1) := by decide +kernel
theorem dX1_init_16 : decode cX1_init 16 = .ok (.iconst 0, 1) := by decide +kernel
theorem dX1_init_17 : decode cX1_init 17 = .ok (.putfield 18, 3) := by decide +kernel
theorem dX1_init_20 : decode cX1_init 20 = .ok (.aload_n 0, 1) := by decide +kernel
theorem dX1_init_21 : decode cX1_init 21 = .ok (.iconst 0, 1) := by decide +kernel
theorem dX1_init_22 : decode cX1_init 22 = .ok (.putfield 22, 3) := by decide +kernel
theorem dX1_init_25 : decode cX1_init 25 = .ok (.aload_n 0, 1) := by decide +kernel
theorem dX1_init_26 : decode cX1_init 26 = .ok (.iconst 0, 1) := by decide +kernel
theorem dX1_init_27 : decode cX1_init 27 = .ok (.putfield 26, 3) := by decide +kernel
theorem dX1_init_30 : decode cX1_init 30 = .ok (.aload_n 0, 1) := by decide +kernel
theorem dX1_init_31 : decode cX1_init 31 = .ok (.iconst 0, 1) := by decide +kernel
theorem dX1_init_32 : decode cX1_init 32 = .ok (.putfield 29, 3) := by decide +kernel
theorem dX1_init_35 : decode cX1_init 35 = .ok (.aload_n 0, 1) := by decide +kernel
theorem dX1_init_36 : decode cX1_init 36 = .ok (.iconst 0, 1) := by decide +kernel
theorem dX1_init_37 : decode cX1_init 37 = .ok (.putfield 32, 3) := by decide +kernel
theorem dX1_init_40 : decode cX1_init 40 = .ok (.aload_n 0, 1) := by decide +kernel
theorem dX1_init_41 : decode cX1_init 41 = .ok (.iconst 0, 1) := by decide +kernel
theorem dX1_init_42 : decode cX1_init 42 = .ok (.putfield 35, 3) := by decide +kernel
theorem dX1_init_45 : decode cX1_init 45 = .ok (.aload_n 0, 1) := by decide +kernel
theorem dX1_init_46 : decode cX1_init 46 = .ok (.iconst 0, 1) := by decide +kernel
theorem dX1_init_47 : decode cX1_init 47 = .ok (.putfield 38, 3) := by decide +kernel
theorem dX1_init_50 : decode cX1_init 50 = .ok (.return_, 1) := by decide +kernel
theorem dX1_takes_0 : decode cX1_takes 0 = .ok (.aload_n 0, 1) := by decide +kernel
theorem dX1_takes_1 : decode cX1_takes 1 = .ok (.getfield 12, 3) := by decide +kernel
theorem dX1_takes_4 : decode cX1_takes 4 = .ok (.invokevirtual 41, 3) := by decide +kernel
theorem dX1_takes_7 : decode cX1_takes 7 = .ok (.ifCond .eq 18, 3) := by decide +kernel
theorem dX1_takes_10 : decode cX1_takes 10 = .ok (.bipush 12, 2) := by decide +kernel
theorem dX1_takes_12 : decode cX1_takes 12 = .ok (.aload_n 0, 1) := by decide +kernel
theorem dX1_takes_13 : decode cX1_takes 13 = .ok (.getfield 18, 3) := by decide +kernel
theorem dX1_takes_16 : decode cX1_takes 16 = .ok (.imul, 1) := by decide +kernel
theorem dX1_takes_17 : decode cX1_takes 17 = .ok (.iload_n 1, 1) := by decide +kernel
theorem dX1_takes_18 : decode cX1_takes 18 = .ok (.if_icmp .lt 7, 3) := by decide +kernel
theorem dX1_takes_21 : decode cX1_takes 21 = .ok (.iconst 1, 1) := by decide +kernel
theorem dX1_takes_22 : decode cX1_takes 22 = .ok (.goto 4, 3) := by decide +kernel
theorem dX1_takes_25 : decode cX1_takes 25 = .ok (.iconst 0, 1) := by decide +kernel
theorem dX1_takes_26 : decode cX1_takes 26 = .ok (.ireturn, 1) := by decide +kernel
theorem dX1_begin_0 : decode cX1_begin 0 = .ok (.aload_n 0, 1) := by decide +kernel
theorem dX1_begin_1 : decode cX1_begin 1 = .ok (.iload_n 1, 1) := by decide +kernel
theorem dX1_begin_2 : decode cX1_begin 2 = .ok (.putfield 26, 3) := by decide +kernel
theorem dX1_begin_5 : decode cX1_begin 5 = .ok (.aload_n 0, 1) := by decide +kernel
theorem dX1_begin_6 : decode cX1_begin 6 = .ok (.iload_n 2, 1) := by decide +kernel
theorem dX1_begin_7 : decode cX1_begin 7 = .ok (.putfield 29, 3) := by decide +kernel
theorem dX1_begin_10 : decode cX1_begin 10 = .ok (.aload_n 0, 1) := by decide +kernel
theorem dX1_begin_11 : decode cX1_begin 11 = .ok (.iload_n 3, 1) := by decide +kernel
theorem dX1_begin_12 : decode cX1_begin 12 = .ok (.putfield 38, 3) := by decide +kernel
theorem dX1_begin_15 : decode cX1_begin 15 = .ok (.aload_n 0, 1) := by decide +kernel
theorem dX1_begin_16 : decode cX1_begin 16 = .ok (.iconst 0, 1) := by decide +kernel
theorem dX1_begin_17 : decode cX1_begin 17 = .ok (.putfield 32, 3) := by decide +kernel
theorem dX1_begin_20 : decode cX1_begin 20 = .ok (.aload_n 0, 1) := by decide +kernel
theorem dX1_begin_21 : decode cX1_begin 21 = .ok (.iconst 0, 1) := by decide +kernel
theorem dX1_begin_22 : decode cX1_begin 22 = .ok (.putfield 35, 3) := by decide +kernel
theorem dX1_begin_25 : decode cX1_begin 25 = .ok (.return_, 1) := by decide +kernel
theorem dX1_empty_0 : decode cX1_empty 0 = .ok (.aload_n 0, 1) := by decide +kernel
theorem dX1_empty_1 : decode cX1_empty 1 = .ok (.getfield 12, 3) := by decide +kernel
theorem dX1_empty_4 : decode cX1_empty 4 = .ok (.invokevirtual 45, 3) := by decide +kernel
theorem dX1_empty_7 : decode cX1_empty 7 = .ok (.aload_n 0, 1) := by decide +kernel
theorem dX1_empty_8 : decode cX1_empty 8 = .ok (.iconst 0, 1) := by decide +kernel
theorem dX1_empty_9 : decode cX1_empty 9 = .ok (.iconst 0, 1) := by decide +kernel
theorem dX1_empty_10 : decode cX1_empty 10 = .ok (.iconst 0, 1) := by decide +kernel
theorem dX1_empty_11 : decode cX1_empty 11 = .ok (.invokevirtual 48, 3) := by decide +kernel
theorem dX1_empty_14 : decode cX1_empty 14 = .ok (.return_, 1) := by decide +kernel
theorem dX1_passHour_0 : decode cX1_passHour 0 = .ok (.aload_n 0, 1) := by decide +kernel
theorem dX1_passHour_1 : decode cX1_passHour 1 = .ok (.getfield 12, 3) := by decide +kernel
theorem dX1_passHour_4 : decode cX1_passHour 4 = .ok (.invokevirtual 41, 3) := by decide +kernel
theorem dX1_passHour_7 : decode cX1_passHour 7 = .ok (.ifCond .eq 4, 3) := by decide +kernel
theorem dX1_passHour_10 : decode cX1_passHour 10 = .ok (.return_, 1) := by decide +kernel
theorem dX1_passHour_11 : decode cX1_passHour 11 = .ok (.iload_n 3, 1) := by decide +kernel
theorem dX1_passHour_12 : decode cX1_passHour 12 = .ok (.ifCond .le 29, 3) := by decide +kernel
theorem dX1_passHour_15 : decode cX1_passHour 15 = .ok (.aload_n 0, 1) := by decide +kernel
theorem dX1_passHour_16 : decode cX1_passHour 16 = .ok (.getfield 22, 3) := by decide +kernel
theorem dX1_passHour_19 : decode cX1_passHour 19 = .ok (.ifCond .ne 22, 3) := by decide +kernel
theorem dX1_passHour_22 : decode cX1_passHour 22 = .ok (.aload_n 0, 1) := by decide +kernel
theorem dX1_passHour_23 : decode cX1_passHour 23 = .ok (.sipush 600, 3) := by decide +kernel
theorem dX1_passHour_26 : decode cX1_passHour 26 = .ok (.aload_n 0, 1) := by decide +kernel
theorem dX1_passHour_27 : decode cX1_passHour 27 = .ok (.getfield 29, 3) := by decide +kernel
theorem dX1_passHour_30 : decode cX1_passHour 30 = .ok (.iload_n 3, 1) := by decide +kernel
theorem dX1_passHour_31 : decode cX1_passHour 31 = .ok (.iadd, 1) := by decide +kernel
theorem dX1_passHour_32 : decode cX1_passHour 32 = .ok (.invokestatic 52, 3) := by decide +kernel
theorem dX1_passHour_35 : decode cX1_passHour 35 = .ok (.putfield 29, 3) := by decide +kernel
theorem dX1_passHour_38 : decode cX1_passHour 38 = .ok (.goto 17, 3) := by decide +kernel
theorem dX1_passHour_41 : decode cX1_passHour 41 = .ok (.aload_n 0, 1) := by decide +kernel
theorem dX1_passHour_42 : decode cX1_passHour 42 = .ok (.aload_n 0, 1) := by decide +kernel
theorem dX1_passHour_43 : decode cX1_passHour 43 = .ok (.aload_n 0, 1) := by decide +kernel
theorem dX1_passHour_44 : decode cX1_passHour 44 = .ok (.getfield 29, 3) := by decide +kernel
theorem dX1_passHour_47 : decode cX1_passHour 47 = .ok (.iload_n 1, 1) := by decide +kernel
theorem dX1_passHour_48 : decode cX1_passHour 48 = .ok (.iload_n 2, 1) := by decide +kernel
theorem dX1_passHour_49 : decode cX1_passHour 49 = .ok (.invokevirtual 58, 3) := by decide +kernel
theorem dX1_passHour_52 : decode cX1_passHour 52 = .ok (.putfield 29, 3) := by decide +kernel
theorem dX1_passHour_55 : decode cX1_passHour 55 = .ok (.aload_n 0, 1) := by decide +kernel
theorem dX1_passHour_56 : decode cX1_passHour 56 = .ok (.dup, 1) := by decide +kernel
theorem dX1_passHour_57 : decode cX1_passHour 57 = .ok (.getfield 32, 3) := by decide +kernel
theorem dX1_passHour_60 : decode cX1_passHour 60 = .ok (.iconst 1, 1) := by decide +kernel
theorem dX1_passHour_61 : decode cX1_passHour 61 = .ok (.iadd, 1) := by decide +kernel
theorem dX1_passHour_62 : decode cX1_passHour 62 = .ok (.putfield 32, 3) := by decide +kernel
theorem dX1_passHour_65 : decode cX1_passHour 65 = .ok (.aload_n 0, 1) := by decide +kernel
theorem dX1_passHour_66 : decode cX1_passHour 66 = .ok (.getfield 32, 3) := by decide +kernel
theorem dX1_passHour_69 : decode cX1_passHour 69 = .ok (.bipush 12, 2) := by decide +kernel
theorem dX1_passHour_71 : decode cX1_passHour 71 = .ok (.irem, 1) := by decide +kernel
theorem dX1_passHour_72 : decode cX1_passHour 72 = .ok (.ifCond .ne 23, 3) := by decide +kernel
theorem dX1_passHour_75 : decode cX1_passHour 75 = .ok (.aload_n 0, 1) := by decide +kernel
theorem dX1_passHour_76 : decode cX1_passHour 76 = .ok (.getfield 29, 3) := by decide +kernel
theorem dX1_passHour_79 : decode cX1_passHour 79 = .ok (.sipush 250, 3) := by decide +kernel
theorem dX1_passHour_82 : decode cX1_passHour 82 = .ok (.if_icmp .le 13, 3) := by decide +kernel
theorem dX1_passHour_85 : decode cX1_passHour 85 = .ok (.aload_n 0, 1) := by decide +kernel
theorem dX1_passHour_86 : decode cX1_passHour 86 = .ok (.dup, 1) := by decide +kernel
theorem dX1_passHour_87 : decode cX1_passHour 87 = .ok (.getfield 35, 3) := by decide +kernel
theorem dX1_passHour_90 : decode cX1_passHour 90 = .ok (.iconst 1, 1) := by decide +kernel
theorem dX1_passHour_91 : decode cX1_passHour 91 = .ok (.iadd, 1) := by decide +kernel
theorem dX1_passHour_92 : decode cX1_passHour 92 = .ok (.putfield 35, 3) := by decide +kernel
theorem dX1_passHour_95 : decode cX1_passHour 95 = .ok (.return_, 1) := by decide +kernel
theorem dX1_driedFrom_0 : decode cX1_driedFrom 0 = .ok (.iload_n 2, 1) := by decide +kernel
theorem dX1_driedFrom_1 : decode cX1_driedFrom 1 = .ok (.bipush 24, 2) := by decide +kernel
theorem dX1_driedFrom_3 : decode cX1_driedFrom 3 = .ok (.irem, 1) := by decide +kernel
theorem dX1_driedFrom_4 : decode cX1_driedFrom 4 = .ok (.istore 4, 2) := by decide +kernel
theorem dX1_driedFrom_6 : decode cX1_driedFrom 6 = .ok (.iload 4, 2) := by decide +kernel
theorem dX1_driedFrom_8 : decode cX1_driedFrom 8 = .ok (.bipush 8, 2) := by decide +kernel
theorem dX1_driedFrom_10 : decode cX1_driedFrom 10 = .ok (.if_icmp .lt 10, 3) := by decide +kernel
theorem dX1_driedFrom_13 : decode cX1_driedFrom 13 = .ok (.iload 4, 2) := by decide +kernel
theorem dX1_driedFrom_15 : decode cX1_driedFrom 15 = .ok (.bipush 17, 2) := by decide +kernel
theorem dX1_driedFrom_17 : decode cX1_driedFrom 17 = .ok (.if_icmp .le 5, 3) := by decide +kernel
theorem dX1_driedFrom_20 : decode cX1_driedFrom 20 = .ok (.iload_n 1, 1) := by decide +kernel
theorem dX1_driedFrom_21 : decode cX1_driedFrom 21 = .ok (.ireturn, 1) := by decide +kernel
theorem dX1_driedFrom_22 : decode cX1_driedFrom 22 = .ok (.iload_n 3, 1) := by decide +kernel
theorem dX1_driedFrom_23 : decode cX1_driedFrom 23 = .ok (.bipush 10, 2) := by decide +kernel
theorem dX1_driedFrom_25 : decode cX1_driedFrom 25 = .ok (.imul, 1) := by decide +kernel
theorem dX1_driedFrom_26 : decode cX1_driedFrom 26 = .ok (.bipush 10, 2) := by decide +kernel
theorem dX1_driedFrom_28 : decode cX1_driedFrom 28 = .ok (.aload_n 0, 1) := by decide +kernel
theorem dX1_driedFrom_29 : decode cX1_driedFrom 29 = .ok (.invokevirtual 62, 3) := by decide +kernel
theorem dX1_driedFrom_32 : decode cX1_driedFrom 32 = .ok (.iadd, 1) := by decide +kernel
theorem dX1_driedFrom_33 : decode cX1_driedFrom 33 = .ok (.idiv, 1) := by decide +kernel
theorem dX1_driedFrom_34 : decode cX1_driedFrom 34 = .ok (.istore 5, 2) := by decide +kernel
theorem dX1_driedFrom_36 : decode cX1_driedFrom 36 = .ok (.bipush 80, 2) := by decide +kernel
theorem dX1_driedFrom_38 : decode cX1_driedFrom 38 = .ok (.iload_n 1, 1) := by decide +kernel
theorem dX1_driedFrom_39 : decode cX1_driedFrom 39 = .ok (.aload_n 0, 1) := by decide +kernel
theorem dX1_driedFrom_40 : decode cX1_driedFrom 40 = .ok (.getfield 22, 3) := by decide +kernel
theorem dX1_driedFrom_43 : decode cX1_driedFrom 43 = .ok (.ifCond .eq 10, 3) := by decide +kernel
theorem dX1_driedFrom_46 : decode cX1_driedFrom 46 = .ok (.iload 5, 2) := by decide +kernel
theorem dX1_driedFrom_48 : decode cX1_driedFrom 48 = .ok (.iconst 4, 1) := by decide +kernel
theorem dX1_driedFrom_49 : decode cX1_driedFrom 49 = .ok (.idiv, 1) := by decide +kernel
theorem dX1_driedFrom_50 : decode cX1_driedFrom 50 = .ok (.goto 5, 3) := by decide +kernel
theorem dX1_driedFrom_53 : decode cX1_driedFrom 53 = .ok (.iload 5, 2) := by decide +kernel
theorem dX1_driedFrom_55 : decode cX1_driedFrom 55 = .ok (.isub, 1) := by decide +kernel
theorem dX1_driedFrom_56 : decode cX1_driedFrom 56 = .ok (.invokestatic 66, 3) := by decide +kernel
theorem dX1_driedFrom_59 : decode cX1_driedFrom 59 = .ok (.ireturn, 1) := by decide +kernel
theorem dX1_depth_0 : decode cX1_depth 0 = .ok (.aload_n 0, 1) := by decide +kernel
theorem dX1_depth_1 : decode cX1_depth 1 = .ok (.getfield 18, 3) := by decide +kernel
theorem dX1_depth_4 : decode cX1_depth 4 = .ok (.ifCond .le 18, 3) := by decide +kernel
theorem dX1_depth_7 : decode cX1_depth 7 = .ok (.aload_n 0, 1) := by decide +kernel
theorem dX1_depth_8 : decode cX1_depth 8 = .ok (.getfield 12, 3) := by decide +kernel
theorem dX1_depth_11 : decode cX1_depth 11 = .ok (.getfield 69, 3) := by decide +kernel
theorem dX1_depth_14 : decode cX1_depth 14 = .ok (.aload_n 0, 1) := by decide +kernel
theorem dX1_depth_15 : decode cX1_depth 15 = .ok (.getfield 18, 3) := by decide +kernel
theorem dX1_depth_18 : decode cX1_depth 18 = .ok (.idiv, 1) := by decide +kernel
theorem dX1_depth_19 : decode cX1_depth 19 = .ok (.goto 4, 3) := by decide +kernel
theorem dX1_depth_22 : decode cX1_depth 22 = .ok (.iconst 0, 1) := by decide +kernel
theorem dX1_depth_23 : decode cX1_depth 23 = .ok (.ireturn, 1) := by decide +kernel
theorem dX1_keptOf_0 : decode cX1_keptOf 0 = .ok (.aload_n 0, 1) := by decide +kernel
theorem dX1_keptOf_1 : decode cX1_keptOf 1 = .ok (.getfield 26, 3) := by decide +kernel
theorem dX1_keptOf_4 : decode cX1_keptOf 4 = .ok (.iconst 2, 1) := by decide +kernel
theorem dX1_keptOf_5 : decode cX1_keptOf 5 = .ok (.if_icmp .ne 9, 3) := by decide +kernel
theorem dX1_keptOf_8 : decode cX1_keptOf 8 = .ok (.iload_n 1, 1) := by decide +kernel
theorem dX1_keptOf_9 : decode cX1_keptOf 9 = .ok (.iconst 3, 1) := by decide +kernel
theorem dX1_keptOf_10 : decode cX1_keptOf 10 = .ok (.idiv, 1) := by decide +kernel
theorem dX1_keptOf_11 : decode cX1_keptOf 11 = .ok (.goto 6, 3) := by decide +kernel
theorem dX1_keptOf_14 : decode cX1_keptOf 14 = .ok (.iload_n 1, 1) := by decide +kernel
theorem dX1_keptOf_15 : decode cX1_keptOf 15 = .ok (.iconst 2, 1) := by decide +kernel
theorem dX1_keptOf_16 : decode cX1_keptOf 16 = .ok (.idiv, 1) := by decide +kernel
theorem dX1_keptOf_17 : decode cX1_keptOf 17 = .ok (.ireturn, 1) := by decide +kernel
theorem dX1_keptKilos_0 : decode cX1_keptKilos 0 = .ok (.iconst 0, 1) := by decide +kernel
theorem dX1_keptKilos_1 : decode cX1_keptKilos 1 = .ok (.istore_n 1, 1) := by decide +kernel
theorem dX1_keptKilos_2 : decode cX1_keptKilos 2 = .ok (.iconst 0, 1) := by decide +kernel
theorem dX1_keptKilos_3 : decode cX1_keptKilos 3 = .ok (.istore_n 2, 1) := by decide +kernel
theorem dX1_keptKilos_4 : decode cX1_keptKilos 4 = .ok (.iload_n 2, 1) := by decide +kernel
theorem dX1_keptKilos_5 : decode cX1_keptKilos 5 = .ok (.bipush 6, 2) := by decide +kernel
theorem dX1_keptKilos_7 : decode cX1_keptKilos 7 = .ok (.if_icmp .ge 25, 3) := by decide +kernel
theorem dX1_keptKilos_10 : decode cX1_keptKilos 10 = .ok (.iload_n 1, 1) := by decide +kernel
theorem dX1_keptKilos_11 : decode cX1_keptKilos 11 = .ok (.aload_n 0, 1) := by decide +kernel
theorem dX1_keptKilos_12 : decode cX1_keptKilos 12 = .ok (.aload_n 0, 1) := by decide +kernel
theorem dX1_keptKilos_13 : decode cX1_keptKilos 13 = .ok (.getfield 12, 3) := by decide +kernel
theorem dX1_keptKilos_16 : decode cX1_keptKilos 16 = .ok (.getfield 72, 3) := by decide +kernel
theorem dX1_keptKilos_19 : decode cX1_keptKilos 19 = .ok (.iload_n 2, 1) := by decide +kernel
theorem dX1_keptKilos_20 : decode cX1_keptKilos 20 = .ok (.iaload, 1) := by decide +kernel
theorem dX1_keptKilos_21 : decode cX1_keptKilos 21 = .ok (.invokevirtual 76, 3) := by decide +kernel
theorem dX1_keptKilos_24 : decode cX1_keptKilos 24 = .ok (.iadd, 1) := by decide +kernel
theorem dX1_keptKilos_25 : decode cX1_keptKilos 25 = .ok (.istore_n 1, 1) := by decide +kernel
theorem dX1_keptKilos_26 : decode cX1_keptKilos 26 = .ok (.iinc 2 1, 3) := by decide +kernel
theorem dX1_keptKilos_29 : decode cX1_keptKilos 29 = .ok (.goto (-25), 3) := by decide +kernel
theorem dX1_keptKilos_32 : decode cX1_keptKilos 32 = .ok (.iload_n 1, 1) := by decide +kernel
theorem dX1_keptKilos_33 : decode cX1_keptKilos 33 = .ok (.ireturn, 1) := by decide +kernel
theorem dX2_init_0 : decode cX2_init 0 = .ok (.aload_n 0, 1) := by decide +kernel
theorem dX2_init_1 : decode cX2_init 1 = .ok (.invokespecial 3, 3) := by decide +kernel
theorem dX2_init_4 : decode cX2_init 4 = .ok (.aload_n 0, 1) := by decide +kernel
theorem dX2_init_5 : decode cX2_init 5 = .ok (.iconst 0, 1) := by decide +kernel
theorem dX2_init_6 : decode cX2_init 6 = .ok (.putfield 9, 3) := by decide +kernel
theorem dX2_init_9 : decode cX2_init 9 = .ok (.aload_n 0, 1) := by decide +kernel
theorem dX2_init_10 : decode cX2_init 10 = .ok (.iconst (-1), 1) := by decide +kernel
theorem dX2_init_11 : decode cX2_init 11 = .ok (.putfield 15, 3) := by decide +kernel
theorem dX2_init_14 : decode cX2_init 14 = .ok (.aload_n 0, 1) := by decide +kernel
theorem dX2_init_15 : decode cX2_init 15 = .ok (.iconst 0, 1) := by decide +kernel
theorem dX2_init_16 : decode cX2_init 16 = .ok (.putfield 18, 3) := by decide +kernel
theorem dX2_init_19 : decode cX2_init 19 = .ok (.aload_n 0, 1) := by decide +kernel
theorem dX2_init_20 : decode cX2_init 20 = .ok (.iconst 0, 1) := by decide +kernel
theorem dX2_init_21 : decode cX2_init 21 = .ok (.putfield 21, 3) := by decide +kernel
theorem dX2_init_24 : decode cX2_init 24 = .ok (.return_, 1) := by decide +kernel
theorem dX3_init_0 : decode cX3_init 0 = .ok (.aload_n 0, 1) := by decide +kernel
theorem dX3_init_1 : decode cX3_init 1 = .ok (.invokespecial 3, 3) := by decide +kernel
theorem dX3_init_4 : decode cX3_init 4 = .ok (.aload_n 0, 1) := by decide +kernel
theorem dX3_init_5 : decode cX3_init 5 = .ok (.new 9, 3) := by decide +kernel
theorem dX3_init_8 : decode cX3_init 8 = .ok (.dup, 1) := by decide +kernel
theorem dX3_init_9 : decode cX3_init 9 = .ok (.invokespecial 11, 3) := by decide +kernel
theorem dX3_init_12 : decode cX3_init 12 = .ok (.putfield 12, 3) := by decide +kernel
theorem dX3_init_15 : decode cX3_init 15 = .ok (.aload_n 0, 1) := by decide +kernel
theorem dX3_init_16 : decode cX3_init 16 = .ok (.iconst 3, 1) := by decide +kernel
theorem dX3_init_17 : decode cX3_init 17 = .ok (.newarray .int, 2) := by decide +kernel
theorem dX3_init_19 : decode cX3_init 19 = .ok (.dup, 1) := by decide +kernel
theorem dX3_init_20 : decode cX3_init 20 = .ok (.iconst 0, 1) := by decide +kernel
theorem dX3_init_21 : decode cX3_init 21 = .ok (.iconst (-1), 1) := by decide +kernel
theorem dX3_init_22 : decode cX3_init 22 = .ok (.iastore, 1) := by decide +kernel
theorem dX3_init_23 : decode cX3_init 23 = .ok (.dup, 1) := by decide +kernel
theorem dX3_init_24 : decode cX3_init 24 = .ok (.iconst 1, 1) := by decide +kernel
theorem dX3_init_25 : decode cX3_init 25 = .ok (.iconst (-1), 1) := by decide +kernel
theorem dX3_init_26 : decode cX3_init 26 = .ok (.iastore, 1) := by decide +kernel
theorem dX3_init_27 : decode cX3_init 27 = .ok (.dup, 1) := by decide +kernel
theorem dX3_init_28 : decode cX3_init 28 = .ok (.iconst 2, 1) := by decide +kernel
theorem dX3_init_29 : decode cX3_init 29 = .ok (.iconst (-1), 1) := by decide +kernel
theorem dX3_init_30 : decode cX3_init 30 = .ok (.iastore, 1) := by decide +kernel
theorem dX3_init_31 : decode cX3_init 31 = .ok (.putfield 18, 3) := by decide +kernel
theorem dX3_init_34 : decode cX3_init 34 = .ok (.aload_n 0, 1) := by decide +kernel
theorem dX3_init_35 : decode cX3_init 35 = .ok (.iconst 0, 1) := by decide +kernel
theorem dX3_init_36 : decode cX3_init 36 = .ok (.putfield 22, 3) := by decide +kernel
theorem dX3_init_39 : decode cX3_init 39 = .ok (.aload_n 0, 1) := by decide +kernel
theorem dX3_init_40 : decode cX3_init 40 = .ok (.iconst 0, 1) := by decide +kernel
theorem dX3_init_41 : decode cX3_init 41 = .ok (.putfield 26, 3) := by decide +kernel
theorem dX3_init_44 : decode cX3_init 44 = .ok (.aload_n 0, 1) := by decide +kernel
theorem dX3_init_45 : decode cX3_init 45 = .ok (.iconst 0, 1) := by decide +kernel
theorem dX3_init_46 : decode cX3_init 46 = .ok (.putfield 30, 3) := by decide +kernel
theorem dX3_init_49 : decode cX3_init 49 = .ok (.aload_n 0, 1) := by decide +kernel
theorem dX3_init_50 : decode cX3_init 50 = .ok (.iconst 0, 1) := by decide +kernel
theorem dX3_init_51 : decode cX3_init 51 = .ok (.putfield 33, 3) := by decide +kernel
theorem dX3_init_54 : decode cX3_init 54 = .ok (.aload_n 0, 1) := by decide +kernel
theorem dX3_init_55 : decode cX3_init 55 = .ok (.iconst 0, 1) := by decide +kernel
theorem dX3_init_56 : decode cX3_init 56 = .ok (.putfield 36, 3) := by decide +kernel
theorem dX3_init_59 : decode cX3_init 59 = .ok (.aload_n 0, 1) := by decide +kernel
theorem dX3_init_60 : decode cX3_init 60 = .ok (.iconst 0, 1) := by decide +kernel
theorem dX3_init_61 : decode cX3_init 61 = .ok (.putfield 39, 3) := by decide +kernel
theorem dX3_init_64 : decode cX3_init 64 = .ok (.return_, 1) := by decide +kernel
theorem dX3_fillFrom_0 : decode cX3_fillFrom 0 = .ok (.iconst 0, 1) := by decide +kernel
theorem dX3_fillFrom_1 : decode cX3_fillFrom 1 = .ok (.istore_n 2, 1) := by decide +kernel
theorem dX3_fillFrom_2 : decode cX3_fillFrom 2 = .ok (.iload_n 2, 1) := by decide +kernel
theorem dX3_fillFrom_3 : decode cX3_fillFrom 3 = .ok (.bipush 6, 2) := by decide +kernel
theorem dX3_fillFrom_5 : decode cX3_fillFrom 5 = .ok (.if_icmp .ge 53, 3) := by decide +kernel
theorem dX3_fillFrom_8 : decode cX3_fillFrom 8 = .ok (.aload_n 0, 1) := by decide +kernel
theorem dX3_fillFrom_9 : decode cX3_fillFrom 9 = .ok (.getfield 12, 3) := by decide +kernel
theorem dX3_fillFrom_12 : decode cX3_fillFrom 12 = .ok (.getfield 42, 3) := by decide +kernel
theorem dX3_fillFrom_15 : decode cX3_fillFrom 15 = .ok (.iload_n 2, 1) := by decide +kernel
theorem dX3_fillFrom_16 : decode cX3_fillFrom 16 = .ok (.aload_n 1, 1) := by decide +kernel
theorem dX3_fillFrom_17 : decode cX3_fillFrom 17 = .ok (.aload_n 1, 1) := by decide +kernel
theorem dX3_fillFrom_18 : decode cX3_fillFrom 18 = .ok (.getfield 45, 3) := by decide +kernel
theorem dX3_fillFrom_21 : decode cX3_fillFrom 21 = .ok (.getfield 42, 3) := by decide +kernel
theorem dX3_fillFrom_24 : decode cX3_fillFrom 24 = .ok (.iload_n 2, 1) := by decide +kernel
theorem dX3_fillFrom_25 : decode cX3_fillFrom 25 = .ok (.iaload, 1) := by decide +kernel
theorem dX3_fillFrom_26 : decode cX3_fillFrom 26 = .ok (.invokevirtual 48, 3) := by decide +kernel
theorem dX3_fillFrom_29 : decode cX3_fillFrom 29 = .ok (.iastore, 1) := by decide +kernel
theorem dX3_fillFrom_30 : decode cX3_fillFrom 30 = .ok (.aload_n 0, 1) := by decide +kernel
theorem dX3_fillFrom_31 : decode cX3_fillFrom 31 = .ok (.getfield 12, 3) := by decide +kernel
theorem dX3_fillFrom_34 : decode cX3_fillFrom 34 = .ok (.getfield 52, 3) := by decide +kernel
theorem dX3_fillFrom_37 : decode cX3_fillFrom 37 = .ok (.iload_n 2, 1) := by decide +kernel
theorem dX3_fillFrom_38 : decode cX3_fillFrom 38 = .ok (.aload_n 1, 1) := by decide +kernel
theorem dX3_fillFrom_39 : decode cX3_fillFrom 39 = .ok (.aload_n 1, 1) := by decide +kernel
theorem dX3_fillFrom_40 : decode cX3_fillFrom 40 = .ok (.getfield 45, 3) := by decide +kernel
theorem dX3_fillFrom_43 : decode cX3_fillFrom 43 = .ok (.getfield 52, 3) := by decide +kernel
theorem dX3_fillFrom_46 : decode cX3_fillFrom 46 = .ok (.iload_n 2, 1) := by decide +kernel
theorem dX3_fillFrom_47 : decode cX3_fillFrom 47 = .ok (.iaload, 1) := by decide +kernel
theorem dX3_fillFrom_48 : decode cX3_fillFrom 48 = .ok (.invokevirtual 48, 3) := by decide +kernel
theorem dX3_fillFrom_51 : decode cX3_fillFrom 51 = .ok (.iastore, 1) := by decide +kernel
theorem dX3_fillFrom_52 : decode cX3_fillFrom 52 = .ok (.iinc 2 1, 3) := by decide +kernel
theorem dX3_fillFrom_55 : decode cX3_fillFrom 55 = .ok (.goto (-53), 3) := by decide +kernel
theorem dX3_fillFrom_58 : decode cX3_fillFrom 58 = .ok (.aload_n 0, 1) := by decide +kernel
theorem dX3_fillFrom_59 : decode cX3_fillFrom 59 = .ok (.getfield 12, 3) := by decide +kernel
theorem dX3_fillFrom_62 : decode cX3_fillFrom 62 = .ok (.aload_n 1, 1) := by decide +kernel
theorem dX3_fillFrom_63 : decode cX3_fillFrom 63 = .ok (.invokevirtual 55, 3) := by decide +kernel
theorem dX3_fillFrom_66 : decode cX3_fillFrom 66 = .ok (.putfield 59, 3) := by decide +kernel
theorem dX3_fillFrom_69 : decode cX3_fillFrom 69 = .ok (.aload_n 0, 1) := by decide +kernel
theorem dX3_fillFrom_70 : decode cX3_fillFrom 70 = .ok (.getfield 12, 3) := by decide +kernel
theorem dX3_fillFrom_73 : decode cX3_fillFrom 73 = .ok (.aload_n 1, 1) := by decide +kernel
theorem dX3_fillFrom_74 : decode cX3_fillFrom 74 = .ok (.getfield 45, 3) := by decide +kernel
theorem dX3_fillFrom_77 : decode cX3_fillFrom 77 = .ok (.getfield 62, 3) := by decide +kernel
theorem dX3_fillFrom_80 : decode cX3_fillFrom 80 = .ok (.putfield 62, 3) := by decide +kernel
theorem dX3_fillFrom_83 : decode cX3_fillFrom 83 = .ok (.aload_n 0, 1) := by decide +kernel
theorem dX3_fillFrom_84 : decode cX3_fillFrom 84 = .ok (.aload_n 1, 1) := by decide +kernel
theorem dX3_fillFrom_85 : decode cX3_fillFrom 85 = .ok (.getfield 65, 3) := by decide +kernel
theorem dX3_fillFrom_88 : decode cX3_fillFrom 88 = .ok (.putfield 26, 3) := by decide +kernel
theorem dX3_fillFrom_91 : decode cX3_fillFrom 91 = .ok (.aload_n 0, 1) := by decide +kernel
theorem dX3_fillFrom_92 : decode cX3_fillFrom 92 = .ok (.aload_n 1, 1) := by decide +kernel
theorem dX3_fillFrom_93 : decode cX3_fillFrom 93 = .ok (.getfield 66, 3) := by decide +kernel
theorem dX3_fillFrom_96 : decode cX3_fillFrom 96 = .ok (.putfield 30, 3) := by decide +kernel
theorem dX3_fillFrom_99 : decode cX3_fillFrom 99 = .ok (.aload_n 0, 1) := by decide +kernel
theorem dX3_fillFrom_100 : decode cX3_fillFrom 100 = .ok (.aload_n 1, 1) := by decide +kernel
theorem dX3_fillFrom_101 : decode cX3_fillFrom 101 = .ok (.getfield 67, 3) := by decide +kernel
theorem dX3_fillFrom_104 : decode cX3_fillFrom 104 = .ok (.putfield 33, 3) := by decide +kernel
theorem dX3_fillFrom_107 : decode cX3_fillFrom 107 = .ok (.aload_n 0, 1) := by decide +kernel
theorem dX3_fillFrom_108 : decode cX3_fillFrom 108 = .ok (.aload_n 1, 1) := by decide +kernel
theorem dX3_fillFrom_109 : decode cX3_fillFrom 109 = .ok (.getfield 68, 3) := by decide +kernel
theorem dX3_fillFrom_112 : decode cX3_fillFrom 112 = .ok (.putfield 36, 3) := by decide +kernel
theorem dX3_fillFrom_115 : decode cX3_fillFrom 115 = .ok (.aload_n 0, 1) := by decide +kernel
theorem dX3_fillFrom_116 : decode cX3_fillFrom 116 = .ok (.iconst 1, 1) := by decide +kernel
theorem dX3_fillFrom_117 : decode cX3_fillFrom 117 = .ok (.putfield 22, 3) := by decide +kernel
theorem dX3_fillFrom_120 : decode cX3_fillFrom 120 = .ok (.return_, 1) := by decide +kernel
theorem dX3_copyFrom_0 : decode cX3_copyFrom 0 = .ok (.aload_n 0, 1) := by decide +kernel
theorem dX3_copyFrom_1 : decode cX3_copyFrom 1 = .ok (.getfield 12, 3) := by decide +kernel
theorem dX3_copyFrom_4 : decode cX3_copyFrom 4 = .ok (.invokevirtual 69, 3) := by decide +kernel
theorem dX3_copyFrom_7 : decode cX3_copyFrom 7 = .ok (.aload_n 0, 1) := by decide +kernel
theorem dX3_copyFrom_8 : decode cX3_copyFrom 8 = .ok (.getfield 12, 3) := by decide +kernel
theorem dX3_copyFrom_11 : decode cX3_copyFrom 11 = .ok (.aload_n 1, 1) := by decide +kernel
theorem dX3_copyFrom_12 : decode cX3_copyFrom 12 = .ok (.getfield 12, 3) := by decide +kernel
theorem dX3_copyFrom_15 : decode cX3_copyFrom 15 = .ok (.invokevirtual 72, 3) := by decide +kernel
theorem dX3_copyFrom_18 : decode cX3_copyFrom 18 = .ok (.aload_n 0, 1) := by decide +kernel
theorem dX3_copyFrom_19 : decode cX3_copyFrom 19 = .ok (.aload_n 1, 1) := by decide +kernel
theorem dX3_copyFrom_20 : decode cX3_copyFrom 20 = .ok (.getfield 26, 3) := by decide +kernel
theorem dX3_copyFrom_23 : decode cX3_copyFrom 23 = .ok (.putfield 26, 3) := by decide +kernel
theorem dX3_copyFrom_26 : decode cX3_copyFrom 26 = .ok (.aload_n 0, 1) := by decide +kernel
theorem dX3_copyFrom_27 : decode cX3_copyFrom 27 = .ok (.aload_n 1, 1) := by decide +kernel
theorem dX3_copyFrom_28 : decode cX3_copyFrom 28 = .ok (.getfield 30, 3) := by decide +kernel
theorem dX3_copyFrom_31 : decode cX3_copyFrom 31 = .ok (.putfield 30, 3) := by decide +kernel
theorem dX3_copyFrom_34 : decode cX3_copyFrom 34 = .ok (.aload_n 0, 1) := by decide +kernel
theorem dX3_copyFrom_35 : decode cX3_copyFrom 35 = .ok (.aload_n 1, 1) := by decide +kernel
theorem dX3_copyFrom_36 : decode cX3_copyFrom 36 = .ok (.getfield 33, 3) := by decide +kernel
theorem dX3_copyFrom_39 : decode cX3_copyFrom 39 = .ok (.putfield 33, 3) := by decide +kernel
theorem dX3_copyFrom_42 : decode cX3_copyFrom 42 = .ok (.aload_n 0, 1) := by decide +kernel
theorem dX3_copyFrom_43 : decode cX3_copyFrom 43 = .ok (.aload_n 1, 1) := by decide +kernel
theorem dX3_copyFrom_44 : decode cX3_copyFrom 44 = .ok (.getfield 36, 3) := by decide +kernel
theorem dX3_copyFrom_47 : decode cX3_copyFrom 47 = .ok (.putfield 36, 3) := by decide +kernel
theorem dX3_copyFrom_50 : decode cX3_copyFrom 50 = .ok (.aload_n 0, 1) := by decide +kernel
theorem dX3_copyFrom_51 : decode cX3_copyFrom 51 = .ok (.aload_n 1, 1) := by decide +kernel
theorem dX3_copyFrom_52 : decode cX3_copyFrom 52 = .ok (.getfield 39, 3) := by decide +kernel
theorem dX3_copyFrom_55 : decode cX3_copyFrom 55 = .ok (.putfield 39, 3) := by decide +kernel
theorem dX3_copyFrom_58 : decode cX3_copyFrom 58 = .ok (.return_, 1) := by decide +kernel
theorem dX3_canBlendWith_0 : decode cX3_canBlendWith 0 = .ok (.aload_n 0, 1) := by decide +kernel
theorem dX3_canBlendWith_1 : decode cX3_canBlendWith 1 = .ok (.getfield 22, 3) := by decide +kernel
theorem dX3_canBlendWith_4 : decode cX3_canBlendWith 4 = .ok (.ifCond .eq 25, 3) := by decide +kernel
theorem dX3_canBlendWith_7 : decode cX3_canBlendWith 7 = .ok (.aload_n 1, 1) := by decide +kernel
theorem dX3_canBlendWith_8 : decode cX3_canBlendWith 8 = .ok (.getfield 22, 3) := by decide +kernel
theorem dX3_canBlendWith_11 : decode cX3_canBlendWith 11 = .ok (.ifCond .eq 18, 3) := by decide +kernel
theorem dX3_canBlendWith_14 : decode cX3_canBlendWith 14 = .ok (.aload_n 0, 1) := by decide +kernel
theorem dX3_canBlendWith_15 : decode cX3_canBlendWith 15 = .ok (.getfield 26, 3) := by decide +kernel
theorem dX3_canBlendWith_18 : decode cX3_canBlendWith 18 = .ok (.aload_n 1, 1) := by decide +kernel
theorem dX3_canBlendWith_19 : decode cX3_canBlendWith 19 = .ok (.getfield 26, 3) := by decide +kernel
theorem dX3_canBlendWith_22 : decode cX3_canBlendWith 22 = .ok (.if_icmp .ne 7, 3) := by decide +kernel
theorem dX3_canBlendWith_25 : decode cX3_canBlendWith 25 = .ok (.iconst 1, 1) := by decide +kernel
theorem dX3_canBlendWith_26 : decode cX3_canBlendWith 26 = .ok (.goto 4, 3) := by decide +kernel
theorem dX3_canBlendWith_29 : decode cX3_canBlendWith 29 = .ok (.iconst 0, 1) := by decide +kernel
theorem dX3_canBlendWith_30 : decode cX3_canBlendWith 30 = .ok (.ireturn, 1) := by decide +kernel
theorem dX3_takeIn_0 : decode cX3_takeIn 0 = .ok (.aload_n 0, 1) := by decide +kernel
theorem dX3_takeIn_1 : decode cX3_takeIn 1 = .ok (.aload_n 0, 1) := by decide +kernel
theorem dX3_takeIn_2 : decode cX3_takeIn 2 = .ok (.getfield 12, 3) := by decide +kernel
theorem dX3_takeIn_5 : decode cX3_takeIn 5 = .ok (.getfield 59, 3) := by decide +kernel
theorem dX3_takeIn_8 : decode cX3_takeIn 8 = .ok (.aload_n 0, 1) := by decide +kernel
theorem dX3_takeIn_9 : decode cX3_takeIn 9 = .ok (.getfield 30, 3) := by decide +kernel
theorem dX3_takeIn_12 : decode cX3_takeIn 12 = .ok (.aload_n 1, 1) := by decide +kernel
theorem dX3_takeIn_13 : decode cX3_takeIn 13 = .ok (.getfield 12, 3) := by decide +kernel
theorem dX3_takeIn_16 : decode cX3_takeIn 16 = .ok (.getfield 59, 3) := by decide +kernel
theorem dX3_takeIn_19 : decode cX3_takeIn 19 = .ok (.aload_n 1, 1) := by decide +kernel
theorem dX3_takeIn_20 : decode cX3_takeIn 20 = .ok (.getfield 30, 3) := by decide +kernel
theorem dX3_takeIn_23 : decode cX3_takeIn 23 = .ok (.invokestatic 76, 3) := by decide +kernel
theorem dX3_takeIn_26 : decode cX3_takeIn 26 = .ok (.putfield 30, 3) := by decide +kernel
theorem dX3_takeIn_29 : decode cX3_takeIn 29 = .ok (.aload_n 0, 1) := by decide +kernel
theorem dX3_takeIn_30 : decode cX3_takeIn 30 = .ok (.aload_n 0, 1) := by decide +kernel
theorem dX3_takeIn_31 : decode cX3_takeIn 31 = .ok (.getfield 12, 3) := by decide +kernel
theorem dX3_takeIn_34 : decode cX3_takeIn 34 = .ok (.getfield 59, 3) := by decide +kernel
theorem dX3_takeIn_37 : decode cX3_takeIn 37 = .ok (.aload_n 0, 1) := by decide +kernel
theorem dX3_takeIn_38 : decode cX3_takeIn 38 = .ok (.getfield 36, 3) := by decide +kernel
theorem dX3_takeIn_41 : decode cX3_takeIn 41 = .ok (.aload_n 1, 1) := by decide +kernel
theorem dX3_takeIn_42 : decode cX3_takeIn 42 = .ok (.getfield 12, 3) := by decide +kernel
theorem dX3_takeIn_45 : decode cX3_takeIn 45 = .ok (.getfield 59, 3) := by decide +kernel
theorem dX3_takeIn_48 : decode cX3_takeIn 48 = .ok (.aload_n 1, 1) := by decide +kernel
theorem dX3_takeIn_49 : decode cX3_takeIn 49 = .ok (.getfield 36, 3) := by decide +kernel
theorem dX3_takeIn_52 : decode cX3_takeIn 52 = .ok (.invokestatic 76, 3) := by decide +kernel
theorem dX3_takeIn_55 : decode cX3_takeIn 55 = .ok (.putfield 36, 3) := by decide +kernel
theorem dX3_takeIn_58 : decode cX3_takeIn 58 = .ok (.aload_n 0, 1) := by decide +kernel
theorem dX3_takeIn_59 : decode cX3_takeIn 59 = .ok (.aload_n 0, 1) := by decide +kernel
theorem dX3_takeIn_60 : decode cX3_takeIn 60 = .ok (.getfield 33, 3) := by decide +kernel
theorem dX3_takeIn_63 : decode cX3_takeIn 63 = .ok (.aload_n 1, 1) := by decide +kernel
theorem dX3_takeIn_64 : decode cX3_takeIn 64 = .ok (.getfield 33, 3) := by decide +kernel
theorem dX3_takeIn_67 : decode cX3_takeIn 67 = .ok (.invokestatic 80, 3) := by decide +kernel
theorem dX3_takeIn_70 : decode cX3_takeIn 70 = .ok (.putfield 33, 3) := by decide +kernel
theorem dX3_takeIn_73 : decode cX3_takeIn 73 = .ok (.aload_n 0, 1) := by decide +kernel
theorem dX3_takeIn_74 : decode cX3_takeIn 74 = .ok (.aload_n 0, 1) := by decide +kernel
theorem dX3_takeIn_75 : decode cX3_takeIn 75 = .ok (.getfield 39, 3) := by decide +kernel
theorem dX3_takeIn_78 : decode cX3_takeIn 78 = .ok (.aload_n 1, 1) := by decide +kernel
theorem dX3_takeIn_79 : decode cX3_takeIn 79 = .ok (.getfield 39, 3) := by decide +kernel
theorem dX3_takeIn_82 : decode cX3_takeIn 82 = .ok (.invokestatic 80, 3) := by decide +kernel
theorem dX3_takeIn_85 : decode cX3_takeIn 85 = .ok (.putfield 39, 3) := by decide +kernel
theorem dX3_takeIn_88 : decode cX3_takeIn 88 = .ok (.aload_n 0, 1) := by decide +kernel
theorem dX3_takeIn_89 : decode cX3_takeIn 89 = .ok (.getfield 12, 3) := by decide +kernel
theorem dX3_takeIn_92 : decode cX3_takeIn 92 = .ok (.aload_n 1, 1) := by decide +kernel
theorem dX3_takeIn_93 : decode cX3_takeIn 93 = .ok (.getfield 12, 3) := by decide +kernel
theorem dX3_takeIn_96 : decode cX3_takeIn 96 = .ok (.invokevirtual 72, 3) := by decide +kernel
theorem dX3_takeIn_99 : decode cX3_takeIn 99 = .ok (.return_, 1) := by decide +kernel
theorem dX3_forgetReadings_0 : decode cX3_forgetReadings 0 = .ok (.iconst 0, 1) := by decide +kernel
theorem dX3_forgetReadings_1 : decode cX3_forgetReadings 1 = .ok (.istore_n 1, 1) := by decide +kernel
theorem dX3_forgetReadings_2 : decode cX3_forgetReadings 2 = .ok (.iload_n 1, 1) := by decide +kernel
theorem dX3_forgetReadings_3 : decode cX3_forgetReadings 3 = .ok (.aload_n 0, 1) := by decide +kernel
theorem dX3_forgetReadings_4 : decode cX3_forgetReadings 4 = .ok (.getfield 18, 3) := by decide +kernel
theorem dX3_forgetReadings_7 : decode cX3_forgetReadings 7 = .ok (.arraylength, 1) := by decide +kernel
theorem dX3_forgetReadings_8 : decode cX3_forgetReadings 8 = .ok (.if_icmp .ge 16, 3) := by decide +kernel
theorem dX3_forgetReadings_11 : decode cX3_forgetReadings 11 = .ok (.aload_n 0, 1) := by decide +kernel
theorem dX3_forgetReadings_12 : decode cX3_forgetReadings 12 = .ok (.getfield 18, 3) := by decide +kernel
theorem dX3_forgetReadings_15 : decode cX3_forgetReadings 15 = .ok (.iload_n 1, 1) := by decide +kernel
theorem dX3_forgetReadings_16 : decode cX3_forgetReadings 16 = .ok (.iconst (-1), 1) := by decide +kernel
theorem dX3_forgetReadings_17 : decode cX3_forgetReadings 17 = .ok (.iastore, 1) := by decide +kernel
theorem dX3_forgetReadings_18 : decode cX3_forgetReadings 18 = .ok (.iinc 1 1, 3) := by decide +kernel
theorem dX3_forgetReadings_21 : decode cX3_forgetReadings 21 = .ok (.goto (-19), 3) := by decide +kernel
theorem dX3_forgetReadings_24 : decode cX3_forgetReadings 24 = .ok (.return_, 1) := by decide +kernel
theorem dX3_grade_0 : decode cX3_grade 0 = .ok (.iconst 0, 1) := by decide +kernel
theorem dX3_grade_1 : decode cX3_grade 1 = .ok (.istore_n 1, 1) := by decide +kernel
theorem dX3_grade_2 : decode cX3_grade 2 = .ok (.iconst 0, 1) := by decide +kernel
theorem dX3_grade_3 : decode cX3_grade 3 = .ok (.istore_n 2, 1) := by decide +kernel
theorem dX3_grade_4 : decode cX3_grade 4 = .ok (.iconst 0, 1) := by decide +kernel
theorem dX3_grade_5 : decode cX3_grade 5 = .ok (.istore_n 3, 1) := by decide +kernel
theorem dX3_grade_6 : decode cX3_grade 6 = .ok (.iload_n 3, 1) := by decide +kernel
theorem dX3_grade_7 : decode cX3_grade 7 = .ok (.aload_n 0, 1) := by decide +kernel
theorem dX3_grade_8 : decode cX3_grade 8 = .ok (.getfield 18, 3) := by decide +kernel
theorem dX3_grade_11 : decode cX3_grade 11 = .ok (.arraylength, 1) := by decide +kernel
theorem dX3_grade_12 : decode cX3_grade 12 = .ok (.if_icmp .ge 31, 3) := by decide +kernel
theorem dX3_grade_15 : decode cX3_grade 15 = .ok (.aload_n 0, 1) := by decide +kernel
theorem dX3_grade_16 : decode cX3_grade 16 = .ok (.getfield 18, 3) := by decide +kernel
theorem dX3_grade_19 : decode cX3_grade 19 = .ok (.iload_n 3, 1) := by decide +kernel
theorem dX3_grade_20 : decode cX3_grade 20 = .ok (.iaload, 1) := by decide +kernel
theorem dX3_grade_21 : decode cX3_grade 21 = .ok (.iconst (-1), 1) := by decide +kernel
theorem dX3_grade_22 : decode cX3_grade 22 = .ok (.if_icmp .eq 15, 3) := by decide +kernel
theorem dX3_grade_25 : decode cX3_grade 25 = .ok (.iload_n 1, 1) := by decide +kernel
theorem dX3_grade_26 : decode cX3_grade 26 = .ok (.aload_n 0, 1) := by decide +kernel
theorem dX3_grade_27 : decode cX3_grade 27 = .ok (.getfield 18, 3) := by decide +kernel
theorem dX3_grade_30 : decode cX3_grade 30 = .ok (.iload_n 3, 1) := by decide +kernel
theorem dX3_grade_31 : decode cX3_grade 31 = .ok (.iaload, 1) := by decide +kernel
theorem dX3_grade_32 : decode cX3_grade 32 = .ok (.iadd, 1) := by decide +kernel
theorem dX3_grade_33 : decode cX3_grade 33 = .ok (.istore_n 1, 1) := by decide +kernel
theorem dX3_grade_34 : decode cX3_grade 34 = .ok (.iinc 2 1, 3) := by decide +kernel
theorem dX3_grade_37 : decode cX3_grade 37 = .ok (.iinc 3 1, 3) := by decide +kernel
theorem dX3_grade_40 : decode cX3_grade 40 = .ok (.goto (-34), 3) := by decide +kernel
theorem dX3_grade_43 : decode cX3_grade 43 = .ok (.iload_n 2, 1) := by decide +kernel
theorem dX3_grade_44 : decode cX3_grade 44 = .ok (.ifCond .le 9, 3) := by decide +kernel
theorem dX3_grade_47 : decode cX3_grade 47 = .ok (.iload_n 1, 1) := by decide +kernel
theorem dX3_grade_48 : decode cX3_grade 48 = .ok (.iload_n 2, 1) := by decide +kernel
theorem dX3_grade_49 : decode cX3_grade 49 = .ok (.idiv, 1) := by decide +kernel
theorem dX3_grade_50 : decode cX3_grade 50 = .ok (.goto 4, 3) := by decide +kernel
theorem dX3_grade_53 : decode cX3_grade 53 = .ok (.iconst (-1), 1) := by decide +kernel
theorem dX3_grade_54 : decode cX3_grade 54 = .ok (.ireturn, 1) := by decide +kernel
theorem dX3_score_0 : decode cX3_score 0 = .ok (.bipush 68, 2) := by decide +kernel
theorem dX3_score_2 : decode cX3_score 2 = .ok (.aload_n 0, 1) := by decide +kernel
theorem dX3_score_3 : decode cX3_score 3 = .ok (.getfield 12, 3) := by decide +kernel
theorem dX3_score_6 : decode cX3_score 6 = .ok (.aload_n 1, 1) := by decide +kernel
theorem dX3_score_7 : decode cX3_score 7 = .ok (.invokevirtual 86, 3) := by decide +kernel
theorem dX3_score_10 : decode cX3_score 10 = .ok (.iadd, 1) := by decide +kernel
theorem dX3_score_11 : decode cX3_score 11 = .ok (.istore_n 2, 1) := by decide +kernel
theorem dX3_score_12 : decode cX3_score 12 = .ok (.aload_n 0, 1) := by decide +kernel
theorem dX3_score_13 : decode cX3_score 13 = .ok (.getfield 26, 3) := by decide +kernel
theorem dX3_score_16 : decode cX3_score 16 = .ok (.iconst 1, 1) := by decide +kernel
theorem dX3_score_17 : decode cX3_score 17 = .ok (.if_icmp .ne 9, 3) := by decide +kernel
theorem dX3_score_20 : decode cX3_score 20 = .ok (.iinc 2 1, 3) := by decide +kernel
theorem dX3_score_23 : decode cX3_score 23 = .ok (.goto 14, 3) := by decide +kernel
theorem dX3_score_26 : decode cX3_score 26 = .ok (.aload_n 0, 1) := by decide +kernel
theorem dX3_score_27 : decode cX3_score 27 = .ok (.getfield 26, 3) := by decide +kernel
theorem dX3_score_30 : decode cX3_score 30 = .ok (.iconst 2, 1) := by decide +kernel
theorem dX3_score_31 : decode cX3_score 31 = .ok (.if_icmp .ne 6, 3) := by decide +kernel
theorem dX3_score_34 : decode cX3_score 34 = .ok (.iinc 2 2, 3) := by decide +kernel
theorem dX3_score_37 : decode cX3_score 37 = .ok (.iconst 1, 1) := by decide +kernel
theorem dX3_score_38 : decode cX3_score 38 = .ok (.istore_n 3, 1) := by decide +kernel
theorem dX3_score_39 : decode cX3_score 39 = .ok (.iload_n 3, 1) := by decide +kernel
theorem dX3_score_40 : decode cX3_score 40 = .ok (.iconst 5, 1) := by decide +kernel
theorem dX3_score_41 : decode cX3_score 41 = .ok (.if_icmp .gt 17, 3) := by decide +kernel
theorem dX3_score_44 : decode cX3_score 44 = .ok (.iload_n 2, 1) := by decide +kernel
theorem dX3_score_45 : decode cX3_score 45 = .ok (.aload_n 0, 1) := by decide +kernel
theorem dX3_score_46 : decode cX3_score 46 = .ok (.iload_n 3, 1) := by decide +kernel
theorem dX3_score_47 : decode cX3_score 47 = .ok (.invokevirtual 90, 3) := by decide +kernel
theorem dX3_score_50 : decode cX3_score 50 = .ok (.isub, 1) := by decide +kernel
theorem dX3_score_51 : decode cX3_score 51 = .ok (.istore_n 2, 1) := by decide +kernel
theorem dX3_score_52 : decode cX3_score 52 = .ok (.iinc 3 1, 3) := by decide +kernel
theorem dX3_score_55 : decode cX3_score 55 = .ok (.goto (-16), 3) := by decide +kernel
theorem dX3_score_58 : decode cX3_score 58 = .ok (.bipush 40, 2) := by decide +kernel
theorem dX3_score_60 : decode cX3_score 60 = .ok (.iload_n 2, 1) := by decide +kernel
theorem dX3_score_61 : decode cX3_score 61 = .ok (.invokestatic 80, 3) := by decide +kernel
theorem dX3_score_64 : decode cX3_score 64 = .ok (.ireturn, 1) := by decide +kernel
theorem dX3_cause_0 : decode cX3_cause 0 = .ok (.iconst 0, 1) := by decide +kernel
theorem dX3_cause_1 : decode cX3_cause 1 = .ok (.istore_n 1, 1) := by decide +kernel
theorem dX3_cause_2 : decode cX3_cause 2 = .ok (.iconst 0, 1) := by decide +kernel
theorem dX3_cause_3 : decode cX3_cause 3 = .ok (.istore_n 2, 1) := by decide +kernel
theorem dX3_cause_4 : decode cX3_cause 4 = .ok (.iconst 1, 1) := by decide +kernel
theorem dX3_cause_5 : decode cX3_cause 5 = .ok (.istore_n 3, 1) := by decide +kernel
theorem dX3_cause_6 : decode cX3_cause 6 = .ok (.iload_n 3, 1) := by decide +kernel
theorem dX3_cause_7 : decode cX3_cause 7 = .ok (.iconst 5, 1) := by decide +kernel
theorem dX3_cause_8 : decode cX3_cause 8 = .ok (.if_icmp .gt 26, 3) := by decide +kernel
theorem dX3_cause_11 : decode cX3_cause 11 = .ok (.aload_n 0, 1) := by decide +kernel
theorem dX3_cause_12 : decode cX3_cause 12 = .ok (.iload_n 3, 1) := by decide +kernel
theorem dX3_cause_13 : decode cX3_cause 13 = .ok (.invokevirtual 90, 3) := by decide +kernel
theorem dX3_cause_16 : decode cX3_cause 16 = .ok (.iload_n 1, 1) := by decide +kernel
theorem dX3_cause_17 : decode cX3_cause 17 = .ok (.if_icmp .le 11, 3) := by decide +kernel
theorem dX3_cause_20 : decode cX3_cause 20 = .ok (.aload_n 0, 1) := by decide +kernel
theorem dX3_cause_21 : decode cX3_cause 21 = .ok (.iload_n 3, 1) := by decide +kernel
theorem dX3_cause_22 : decode cX3_cause 22 = .ok (.invokevirtual 90, 3) := by decide +kernel
theorem dX3_cause_25 : decode cX3_cause 25 = .ok (.istore_n 1, 1) := by decide +kernel
theorem dX3_cause_26 : decode cX3_cause 26 = .ok (.iload_n 3, 1) := by decide +kernel
theorem dX3_cause_27 : decode cX3_cause 27 = .ok (.istore_n 2, 1) := by decide +kernel
theorem dX3_cause_28 : decode cX3_cause 28 = .ok (.iinc 3 1, 3) := by decide +kernel
theorem dX3_cause_31 : decode cX3_cause 31 = .ok (.goto (-25), 3) := by decide +kernel
theorem dX3_cause_34 : decode cX3_cause 34 = .ok (.iload_n 2, 1) := by decide +kernel
theorem dX3_cause_35 : decode cX3_cause 35 = .ok (.ireturn, 1) := by decide +kernel
theorem dX3_fault_0 : decode cX3_fault 0 = .ok (.iload_n 1, 1) := by decide +kernel
theorem dX3_fault_1 : decode cX3_fault 1 = .ok (.tableswitch 87 1 4 #[31, 44, 60, 82], 31) := by decide +kernel
theorem dX3_fault_32 : decode cX3_fault 32 = .ok (.bipush 100, 2) := by decide +kernel
theorem dX3_fault_34 : decode cX3_fault 34 = .ok (.aload_n 0, 1) := by decide +kernel
theorem dX3_fault_35 : decode cX3_fault 35 = .ok (.getfield 12, 3) := by decide +kernel
theorem dX3_fault_38 : decode cX3_fault 38 = .ok (.getfield 62, 3) := by decide +kernel
theorem dX3_fault_41 : decode cX3_fault 41 = .ok (.isub, 1) := by decide +kernel
theorem dX3_fault_42 : decode cX3_fault 42 = .ok (.iconst 5, 1) := by decide +kernel
theorem dX3_fault_43 : decode cX3_fault 43 = .ok (.idiv, 1) := by decide +kernel
theorem dX3_fault_44 : decode cX3_fault 44 = .ok (.ireturn, 1) := by decide +kernel
theorem dX3_fault_45 : decode cX3_fault 45 = .ok (.aload_n 0, 1) := by decide +kernel
theorem dX3_fault_46 : decode cX3_fault 46 = .ok (.getfield 26, 3) := by decide +kernel
theorem dX3_fault_49 : decode cX3_fault 49 = .ok (.ifCond .ne 10, 3) := by decide +kernel
theorem dX3_fault_52 : decode cX3_fault 52 = .ok (.aload_n 0, 1) := by decide +kernel
theorem dX3_fault_53 : decode cX3_fault 53 = .ok (.invokevirtual 93, 3) := by decide +kernel
theorem dX3_fault_56 : decode cX3_fault 56 = .ok (.goto 4, 3) := by decide +kernel
theorem dX3_fault_59 : decode cX3_fault 59 = .ok (.iconst 0, 1) := by decide +kernel
theorem dX3_fault_60 : decode cX3_fault 60 = .ok (.ireturn, 1) := by decide +kernel
theorem dX3_fault_61 : decode cX3_fault 61 = .ok (.aload_n 0, 1) := by decide +kernel
theorem dX3_fault_62 : decode cX3_fault 62 = .ok (.getfield 26, 3) := by decide +kernel
theorem dX3_fault_65 : decode cX3_fault 65 = .ok (.iconst 2, 1) := by decide +kernel
theorem dX3_fault_66 : decode cX3_fault 66 = .ok (.if_icmp .ne 12, 3) := by decide +kernel
theorem dX3_fault_69 : decode cX3_fault 69 = .ok (.iconst 2, 1) := by decide +kernel
theorem dX3_fault_70 : decode cX3_fault 70 = .ok (.aload_n 0, 1) := by decide +kernel
theorem dX3_fault_71 : decode cX3_fault 71 = .ok (.getfield 33, 3) := by decide +kernel
theorem dX3_fault_74 : decode cX3_fault 74 = .ok (.imul, 1) := by decide +kernel
theorem dX3_fault_75 : decode cX3_fault 75 = .ok (.goto 7, 3) := by decide +kernel
theorem dX3_fault_78 : decode cX3_fault 78 = .ok (.aload_n 0, 1) := by decide +kernel
theorem dX3_fault_79 : decode cX3_fault 79 = .ok (.getfield 33, 3) := by decide +kernel
theorem dX3_fault_82 : decode cX3_fault 82 = .ok (.ireturn, 1) := by decide +kernel
theorem dX3_fault_83 : decode cX3_fault 83 = .ok (.aload_n 0, 1) := by decide +kernel
theorem dX3_fault_84 : decode cX3_fault 84 = .ok (.invokevirtual 96, 3) := by decide +kernel
theorem dX3_fault_87 : decode cX3_fault 87 = .ok (.ireturn, 1) := by decide +kernel
theorem dX3_fault_88 : decode cX3_fault 88 = .ok (.aload_n 0, 1) := by decide +kernel
theorem dX3_fault_89 : decode cX3_fault 89 = .ok (.getfield 39, 3) := by decide +kernel
theorem dX3_fault_92 : decode cX3_fault 92 = .ok (.bipush 30, 2) := by decide +kernel
theorem dX3_fault_94 : decode cX3_fault 94 = .ok (.idiv, 1) := by decide +kernel
theorem dX3_fault_95 : decode cX3_fault 95 = .ok (.ireturn, 1) := by decide +kernel
theorem dX3_fermentFault_0 : decode cX3_fermentFault 0 = .ok (.aload_n 0, 1) := by decide +kernel
theorem dX3_fermentFault_1 : decode cX3_fermentFault 1 = .ok (.getfield 30, 3) := by decide +kernel
theorem dX3_fermentFault_4 : decode cX3_fermentFault 4 = .ok (.bipush 60, 2) := by decide +kernel
theorem dX3_fermentFault_6 : decode cX3_fermentFault 6 = .ok (.if_icmp .ge 13, 3) := by decide +kernel
theorem dX3_fermentFault_9 : decode cX3_fermentFault 9 = .ok (.bipush 60, 2) := by decide +kernel
theorem dX3_fermentFault_11 : decode cX3_fermentFault 11 = .ok (.aload_n 0, 1) := by decide +kernel
theorem dX3_fermentFault_12 : decode cX3_fermentFault 12 = .ok (.getfield 30, 3) := by decide +kernel
theorem dX3_fermentFault_15 : decode cX3_fermentFault 15 = .ok (.isub, 1) := by decide +kernel
theorem dX3_fermentFault_16 : decode cX3_fermentFault 16 = .ok (.iconst 5, 1) := by decide +kernel
theorem dX3_fermentFault_17 : decode cX3_fermentFault 17 = .ok (.idiv, 1) := by decide +kernel
theorem dX3_fermentFault_18 : decode cX3_fermentFault 18 = .ok (.ireturn, 1) := by decide +kernel
theorem dX3_fermentFault_19 : decode cX3_fermentFault 19 = .ok (.aload_n 0, 1) := by decide +kernel
theorem dX3_fermentFault_20 : decode cX3_fermentFault 20 = .ok (.getfield 30, 3) := by decide +kernel
theorem dX3_fermentFault_23 : decode cX3_fermentFault 23 = .ok (.bipush 100, 2) := by decide +kernel
theorem dX3_fermentFault_25 : decode cX3_fermentFault 25 = .ok (.if_icmp .le 15, 3) := by decide +kernel
theorem dX3_fermentFault_28 : decode cX3_fermentFault 28 = .ok (.aload_n 0, 1) := by decide +kernel
theorem dX3_fermentFault_29 : decode cX3_fermentFault 29 = .ok (.getfield 30, 3) := by decide +kernel
theorem dX3_fermentFault_32 : decode cX3_fermentFault 32 = .ok (.bipush 100, 2) := by decide +kernel
theorem dX3_fermentFault_34 : decode cX3_fermentFault 34 = .ok (.isub, 1) := by decide +kernel
theorem dX3_fermentFault_35 : decode cX3_fermentFault 35 = .ok (.iconst 5, 1) := by decide +kernel
theorem dX3_fermentFault_36 : decode cX3_fermentFault 36 = .ok (.idiv, 1) := by decide +kernel
theorem dX3_fermentFault_37 : decode cX3_fermentFault 37 = .ok (.goto 4, 3) := by decide +kernel
theorem dX3_fermentFault_40 : decode cX3_fermentFault 40 = .ok (.iconst 0, 1) := by decide +kernel
theorem dX3_fermentFault_41 : decode cX3_fermentFault 41 = .ok (.ireturn, 1) := by decide +kernel
theorem dX3_moistureFault_0 : decode cX3_moistureFault 0 = .ok (.aload_n 0, 1) := by decide +kernel
theorem dX3_moistureFault_1 : decode cX3_moistureFault 1 = .ok (.getfield 36, 3) := by decide +kernel
theorem dX3_moistureFault_4 : decode cX3_moistureFault 4 = .ok (.bipush 125, 2) := by decide +kernel
theorem dX3_moistureFault_6 : decode cX3_moistureFault 6 = .ok (.if_icmp .le 14, 3) := by decide +kernel
theorem dX3_moistureFault_9 : decode cX3_moistureFault 9 = .ok (.aload_n 0, 1) := by decide +kernel
theorem dX3_moistureFault_10 : decode cX3_moistureFault 10 = .ok (.getfield 36, 3) := by decide +kernel
theorem dX3_moistureFault_13 : decode cX3_moistureFault 13 = .ok (.bipush 125, 2) := by decide +kernel
theorem dX3_moistureFault_15 : decode cX3_moistureFault 15 = .ok (.isub, 1) := by decide +kernel
theorem dX3_moistureFault_16 : decode cX3_moistureFault 16 = .ok (.bipush 10, 2) := by decide +kernel
theorem dX3_moistureFault_18 : decode cX3_moistureFault 18 = .ok (.idiv, 1) := by decide +kernel
theorem dX3_moistureFault_19 : decode cX3_moistureFault 19 = .ok (.ireturn, 1) := by decide +kernel
theorem dX3_moistureFault_20 : decode cX3_moistureFault 20 = .ok (.aload_n 0, 1) := by decide +kernel
theorem dX3_moistureFault_21 : decode cX3_moistureFault 21 = .ok (.getfield 36, 3) := by decide +kernel
theorem dX3_moistureFault_24 : decode cX3_moistureFault 24 = .ok (.bipush 95, 2) := by decide +kernel
theorem dX3_moistureFault_26 : decode cX3_moistureFault 26 = .ok (.if_icmp .ge 15, 3) := by decide +kernel
theorem dX3_moistureFault_29 : decode cX3_moistureFault 29 = .ok (.bipush 95, 2) := by decide +kernel
theorem dX3_moistureFault_31 : decode cX3_moistureFault 31 = .ok (.aload_n 0, 1) := by decide +kernel
theorem dX3_moistureFault_32 : decode cX3_moistureFault 32 = .ok (.getfield 36, 3) := by decide +kernel
theorem dX3_moistureFault_35 : decode cX3_moistureFault 35 = .ok (.isub, 1) := by decide +kernel
theorem dX3_moistureFault_36 : decode cX3_moistureFault 36 = .ok (.iconst 5, 1) := by decide +kernel
theorem dX3_moistureFault_37 : decode cX3_moistureFault 37 = .ok (.idiv, 1) := by decide +kernel
theorem dX3_moistureFault_38 : decode cX3_moistureFault 38 = .ok (.goto 4, 3) := by decide +kernel
theorem dX3_moistureFault_41 : decode cX3_moistureFault 41 = .ok (.iconst 0, 1) := by decide +kernel
theorem dX3_moistureFault_42 : decode cX3_moistureFault 42 = .ok (.ireturn, 1) := by decide +kernel
theorem dX3_worth_0 : decode cX3_worth 0 = .ok (.aload_n 0, 1) := by decide +kernel
theorem dX3_worth_1 : decode cX3_worth 1 = .ok (.getfield 12, 3) := by decide +kernel
theorem dX3_worth_4 : decode cX3_worth 4 = .ok (.getfield 59, 3) := by decide +kernel
theorem dX3_worth_7 : decode cX3_worth 7 = .ok (.iload_n 1, 1) := by decide +kernel
theorem dX3_worth_8 : decode cX3_worth 8 = .ok (.imul, 1) := by decide +kernel
theorem dX3_worth_9 : decode cX3_worth 9 = .ok (.istore_n 3, 1) := by decide +kernel
theorem dX3_worth_10 : decode cX3_worth 10 = .ok (.iload_n 2, 1) := by decide +kernel
theorem dX3_worth_11 : decode cX3_worth 11 = .ok (.ifCond .eq 27, 3) := by decide +kernel
theorem dX3_worth_14 : decode cX3_worth 14 = .ok (.aload_n 0, 1) := by decide +kernel
theorem dX3_worth_15 : decode cX3_worth 15 = .ok (.invokevirtual 99, 3) := by decide +kernel
theorem dX3_worth_18 : decode cX3_worth 18 = .ok (.bipush 80, 2) := by decide +kernel
theorem dX3_worth_20 : decode cX3_worth 20 = .ok (.if_icmp .lt 18, 3) := by decide +kernel
theorem dX3_worth_23 : decode cX3_worth 23 = .ok (.iload_n 3, 1) := by decide +kernel
theorem dX3_worth_24 : decode cX3_worth 24 = .ok (.bipush 10, 2) := by decide +kernel
theorem dX3_worth_26 : decode cX3_worth 26 = .ok (.aload_n 0, 1) := by decide +kernel
theorem dX3_worth_27 : decode cX3_worth 27 = .ok (.getfield 12, 3) := by decide +kernel
theorem dX3_worth_30 : decode cX3_worth 30 = .ok (.invokevirtual 102, 3) := by decide +kernel
theorem dX3_worth_33 : decode cX3_worth 33 = .ok (.imul, 1) := by decide +kernel
theorem dX3_worth_34 : decode cX3_worth 34 = .ok (.iadd, 1) := by decide +kernel
theorem dX3_worth_35 : decode cX3_worth 35 = .ok (.goto 4, 3) := by decide +kernel
theorem dX3_worth_38 : decode cX3_worth 38 = .ok (.iload_n 3, 1) := by decide +kernel
theorem dX3_worth_39 : decode cX3_worth 39 = .ok (.ireturn, 1) := by decide +kernel
theorem dX3_shareOf_0 : decode cX3_shareOf 0 = .ok (.aload_n 0, 1) := by decide +kernel
theorem dX3_shareOf_1 : decode cX3_shareOf 1 = .ok (.getfield 12, 3) := by decide +kernel
theorem dX3_shareOf_4 : decode cX3_shareOf 4 = .ok (.getfield 59, 3) := by decide +kernel
theorem dX3_shareOf_7 : decode cX3_shareOf 7 = .ok (.ifCond .le 29, 3) := by decide +kernel
theorem dX3_shareOf_10 : decode cX3_shareOf 10 = .ok (.iload_n 2, 1) := by decide +kernel
theorem dX3_shareOf_11 : decode cX3_shareOf 11 = .ok (.aload_n 0, 1) := by decide +kernel
theorem dX3_shareOf_12 : decode cX3_shareOf 12 = .ok (.getfield 12, 3) := by decide +kernel
theorem dX3_shareOf_15 : decode cX3_shareOf 15 = .ok (.getfield 42, 3) := by decide +kernel
theorem dX3_shareOf_18 : decode cX3_shareOf 18 = .ok (.iload_n 1, 1) := by decide +kernel
theorem dX3_shareOf_19 : decode cX3_shareOf 19 = .ok (.iaload, 1) := by decide +kernel
theorem dX3_shareOf_20 : decode cX3_shareOf 20 = .ok (.imul, 1) := by decide +kernel
theorem dX3_shareOf_21 : decode cX3_shareOf 21 = .ok (.iconst 2, 1) := by decide +kernel
theorem dX3_shareOf_22 : decode cX3_shareOf 22 = .ok (.imul, 1) := by decide +kernel
theorem dX3_shareOf_23 : decode cX3_shareOf 23 = .ok (.iconst 5, 1) := by decide +kernel
theorem dX3_shareOf_24 : decode cX3_shareOf 24 = .ok (.aload_n 0, 1) := by decide +kernel
theorem dX3_shareOf_25 : decode cX3_shareOf 25 = .ok (.getfield 12, 3) := by decide +kernel
theorem dX3_shareOf_28 : decode cX3_shareOf 28 = .ok (.getfield 59, 3) := by decide +kernel
theorem dX3_shareOf_31 : decode cX3_shareOf 31 = .ok (.imul, 1) := by decide +kernel
theorem dX3_shareOf_32 : decode cX3_shareOf 32 = .ok (.idiv, 1) := by decide +kernel
theorem dX3_shareOf_33 : decode cX3_shareOf 33 = .ok (.goto 4, 3) := by decide +kernel
theorem dX3_shareOf_36 : decode cX3_shareOf 36 = .ok (.iconst 0, 1) := by decide +kernel
theorem dX3_shareOf_37 : decode cX3_shareOf 37 = .ok (.ireturn, 1) := by decide +kernel
theorem dX4_init_0 : decode cX4_init 0 = .ok (.aload_n 0, 1) := by decide +kernel
theorem dX4_init_1 : decode cX4_init 1 = .ok (.invokespecial 3, 3) := by decide +kernel
theorem dX4_init_4 : decode cX4_init 4 = .ok (.aload_n 0, 1) := by decide +kernel
theorem dX4_init_5 : decode cX4_init 5 = .ok (.bipush 6, 2) := by decide +kernel
theorem dX4_init_7 : decode cX4_init 7 = .ok (.newarray .int, 2) := by decide +kernel
theorem dX4_init_9 : decode cX4_init 9 = .ok (.putfield 9, 3) := by decide +kernel
theorem dX4_init_12 : decode cX4_init 12 = .ok (.aload_n 0, 1) := by decide +kernel
theorem dX4_init_13 : decode cX4_init 13 = .ok (.bipush 6, 2) := by decide +kernel
theorem dX4_init_15 : decode cX4_init 15 = .ok (.newarray .int, 2) := by decide +kernel
theorem dX4_init_17 : decode cX4_init 17 = .ok (.putfield 15, 3) := by decide +kernel
theorem dX4_init_20 : decode cX4_init 20 = .ok (.aload_n 0, 1) := by decide +kernel
theorem dX4_init_21 : decode cX4_init 21 = .ok (.iconst 0, 1) := by decide +kernel
theorem dX4_init_22 : decode cX4_init 22 = .ok (.putfield 18, 3) := by decide +kernel
theorem dX4_init_25 : decode cX4_init 25 = .ok (.aload_n 0, 1) := by decide +kernel
theorem dX4_init_26 : decode cX4_init 26 = .ok (.iconst 0, 1) := by decide +kernel
theorem dX4_init_27 : decode cX4_init 27 = .ok (.putfield 22, 3) := by decide +kernel
theorem dX4_init_30 : decode cX4_init 30 = .ok (.return_, 1) := by decide +kernel
theorem dX4_isEmpty_0 : decode cX4_isEmpty 0 = .ok (.aload_n 0, 1) := by decide +kernel
theorem dX4_isEmpty_1 : decode cX4_isEmpty 1 = .ok (.getfield 18, 3) := by decide +kernel
theorem dX4_isEmpty_4 : decode cX4_isEmpty 4 = .ok (.ifCond .ne 7, 3) := by decide +kernel
theorem dX4_isEmpty_7 : decode cX4_isEmpty 7 = .ok (.iconst 1, 1) := by decide +kernel
theorem dX4_isEmpty_8 : decode cX4_isEmpty 8 = .ok (.goto 4, 3) := by decide +kernel
theorem dX4_isEmpty_11 : decode cX4_isEmpty 11 = .ok (.iconst 0, 1) := by decide +kernel
theorem dX4_isEmpty_12 : decode cX4_isEmpty 12 = .ok (.ireturn, 1) := by decide +kernel
theorem dX4_certifiedKilos_0 : decode cX4_certifiedKilos 0 = .ok (.iconst 0, 1) := by decide +kernel
theorem dX4_certifiedKilos_1 : decode cX4_certifiedKilos 1 = .ok (.istore_n 1, 1) := by decide +kernel
theorem dX4_certifiedKilos_2 : decode cX4_certifiedKilos 2 = .ok (.iconst 0, 1) := by decide +kernel
theorem dX4_certifiedKilos_3 : decode cX4_certifiedKilos 3 = .ok (.istore_n 2, 1) := by decide +kernel
theorem dX4_certifiedKilos_4 : decode cX4_certifiedKilos 4 = .ok (.iload_n 2, 1) := by decide +kernel
theorem dX4_certifiedKilos_5 : decode cX4_certifiedKilos 5 = .ok (.bipush 6, 2) := by decide +kernel
theorem dX4_certifiedKilos_7 : decode cX4_certifiedKilos 7 = .ok (.if_icmp .ge 18, 3) := by decide +kernel
theorem dX4_certifiedKilos_10 : decode cX4_certifiedKilos 10 = .ok (.iload_n 1, 1) := by decide +kernel
theorem dX4_certifiedKilos_11 : decode cX4_certifiedKilos 11 = .ok (.aload_n 0, 1) := by decide +kernel
theorem dX4_certifiedKilos_12 : decode cX4_certifiedKilos 12 = .ok (.getfield 15, 3) := by decide +kernel
theorem dX4_certifiedKilos_15 : decode cX4_certifiedKilos 15 = .ok (.iload_n 2, 1) := by decide +kernel
theorem dX4_certifiedKilos_16 : decode cX4_certifiedKilos 16 = .ok (.iaload, 1) := by decide +kernel
theorem dX4_certifiedKilos_17 : decode cX4_certifiedKilos 17 = .ok (.iadd, 1) := by decide +kernel
theorem dX4_certifiedKilos_18 : decode cX4_certifiedKilos 18 = .ok (.istore_n 1, 1) := by decide +kernel
theorem dX4_certifiedKilos_19 : decode cX4_certifiedKilos 19 = .ok (.iinc 2 1, 3) := by decide +kernel
theorem dX4_certifiedKilos_22 : decode cX4_certifiedKilos 22 = .ok (.goto (-18), 3) := by decide +kernel
theorem dX4_certifiedKilos_25 : decode cX4_certifiedKilos 25 = .ok (.iload_n 1, 1) := by decide +kernel
theorem dX4_certifiedKilos_26 : decode cX4_certifiedKilos 26 = .ok (.ireturn, 1) := by decide +kernel
theorem dX4_height_0 : decode cX4_height 0 = .ok (.iconst 0, 1) := by decide +kernel
theorem dX4_height_1 : decode cX4_height 1 = .ok (.istore_n 2, 1) := by decide +kernel
theorem dX4_height_2 : decode cX4_height 2 = .ok (.iconst 0, 1) := by decide +kernel
theorem dX4_height_3 : decode cX4_height 3 = .ok (.istore_n 3, 1) := by decide +kernel
theorem dX4_height_4 : decode cX4_height 4 = .ok (.iload_n 3, 1) := by decide +kernel
theorem dX4_height_5 : decode cX4_height 5 = .ok (.bipush 6, 2) := by decide +kernel
theorem dX4_height_7 : decode cX4_height 7 = .ok (.if_icmp .ge 31, 3) := by decide +kernel
theorem dX4_height_10 : decode cX4_height 10 = .ok (.iload_n 3, 1) := by decide +kernel
theorem dX4_height_11 : decode cX4_height 11 = .ok (.aload_n 1, 1) := by decide +kernel
theorem dX4_height_12 : decode cX4_height 12 = .ok (.arraylength, 1) := by decide +kernel
theorem dX4_height_13 : decode cX4_height 13 = .ok (.if_icmp .ge 25, 3) := by decide +kernel
theorem dX4_height_16 : decode cX4_height 16 = .ok (.iload_n 2, 1) := by decide +kernel
theorem dX4_height_17 : decode cX4_height 17 = .ok (.aload_n 0, 1) := by decide +kernel
theorem dX4_height_18 : decode cX4_height 18 = .ok (.getfield 9, 3) := by decide +kernel
theorem dX4_height_21 : decode cX4_height 21 = .ok (.iload_n 3, 1) := by decide +kernel
theorem dX4_height_22 : decode cX4_height 22 = .ok (.iaload, 1) := by decide +kernel
theorem dX4_height_23 : decode cX4_height 23 = .ok (.aload_n 1, 1) := by decide +kernel
theorem dX4_height_24 : decode cX4_height 24 = .ok (.iload_n 3, 1) := by decide +kernel
theorem dX4_height_25 : decode cX4_height 25 = .ok (.aaload, 1) := by decide +kernel
theorem dX4_height_26 : decode cX4_height 26 = .ok (.getfield 25, 3) := by decide +kernel
theorem dX4_height_29 : decode cX4_height 29 = .ok (.imul, 1) := by decide +kernel
theorem dX4_height_30 : decode cX4_height 30 = .ok (.iadd, 1) := by decide +kernel
theorem dX4_height_31 : decode cX4_height 31 = .ok (.istore_n 2, 1) := by decide +kernel
theorem dX4_height_32 : decode cX4_height 32 = .ok (.iinc 3 1, 3) := by decide +kernel
theorem dX4_height_35 : decode cX4_height 35 = .ok (.goto (-31), 3) := by decide +kernel
theorem dX4_height_38 : decode cX4_height 38 = .ok (.aload_n 0, 1) := by decide +kernel
theorem dX4_height_39 : decode cX4_height 39 = .ok (.getfield 18, 3) := by decide +kernel
theorem dX4_height_42 : decode cX4_height 42 = .ok (.ifCond .le 12, 3) := by decide +kernel
theorem dX4_height_45 : decode cX4_height 45 = .ok (.iload_n 2, 1) := by decide +kernel
theorem dX4_height_46 : decode cX4_height 46 = .ok (.aload_n 0, 1) := by decide +kernel
theorem dX4_height_47 : decode cX4_height 47 = .ok (.getfield 18, 3) := by decide +kernel
theorem dX4_height_50 : decode cX4_height 50 = .ok (.idiv, 1) := by decide +kernel
theorem dX4_height_51 : decode cX4_height 51 = .ok (.goto 4, 3) := by decide +kernel
theorem dX4_height_54 : decode cX4_height 54 = .ok (.iconst 0, 1) := by decide +kernel
theorem dX4_height_55 : decode cX4_height 55 = .ok (.ireturn, 1) := by decide +kernel
theorem dX4_clear_0 : decode cX4_clear 0 = .ok (.iconst 0, 1) := by decide +kernel
theorem dX4_clear_1 : decode cX4_clear 1 = .ok (.istore_n 1, 1) := by decide +kernel
theorem dX4_clear_2 : decode cX4_clear 2 = .ok (.iload_n 1, 1) := by decide +kernel
theorem dX4_clear_3 : decode cX4_clear 3 = .ok (.bipush 6, 2) := by decide +kernel
theorem dX4_clear_5 : decode cX4_clear 5 = .ok (.if_icmp .ge 23, 3) := by decide +kernel
theorem dX4_clear_8 : decode cX4_clear 8 = .ok (.aload_n 0, 1) := by decide +kernel
theorem dX4_clear_9 : decode cX4_clear 9 = .ok (.getfield 9, 3) := by decide +kernel
theorem dX4_clear_12 : decode cX4_clear 12 = .ok (.iload_n 1, 1) := by decide +kernel
theorem dX4_clear_13 : decode cX4_clear 13 = .ok (.iconst 0, 1) := by decide +kernel
theorem dX4_clear_14 : decode cX4_clear 14 = .ok (.iastore, 1) := by decide +kernel
theorem dX4_clear_15 : decode cX4_clear 15 = .ok (.aload_n 0, 1) := by decide +kernel
theorem dX4_clear_16 : decode cX4_clear 16 = .ok (.getfield 15, 3) := by decide +kernel
theorem dX4_clear_19 : decode cX4_clear 19 = .ok (.iload_n 1, 1) := by decide +kernel
theorem dX4_clear_20 : decode cX4_clear 20 = .ok (.iconst 0, 1) := by decide +kernel
theorem dX4_clear_21 : decode cX4_clear 21 = .ok (.iastore, 1) := by decide +kernel
theorem dX4_clear_22 : decode cX4_clear 22 = .ok (.iinc 1 1, 3) := by decide +kernel
theorem dX4_clear_25 : decode cX4_clear 25 = .ok (.goto (-23), 3) := by decide +kernel
theorem dX4_clear_28 : decode cX4_clear 28 = .ok (.aload_n 0, 1) := by decide +kernel
theorem dX4_clear_29 : decode cX4_clear 29 = .ok (.iconst 0, 1) := by decide +kernel
theorem dX4_clear_30 : decode cX4_clear 30 = .ok (.putfield 18, 3) := by decide +kernel
theorem dX4_clear_33 : decode cX4_clear 33 = .ok (.aload_n 0, 1) := by decide +kernel
theorem dX4_clear_34 : decode cX4_clear 34 = .ok (.iconst 0, 1) := by decide +kernel
theorem dX4_clear_35 : decode cX4_clear 35 = .ok (.putfield 22, 3) := by decide +kernel
theorem dX4_clear_38 : decode cX4_clear 38 = .ok (.return_, 1) := by decide +kernel
theorem dX4_addBasket_0 : decode cX4_addBasket 0 = .ok (.aload_n 0, 1) := by decide +kernel
theorem dX4_addBasket_1 : decode cX4_addBasket 1 = .ok (.aload_n 0, 1) := by decide +kernel
theorem dX4_addBasket_2 : decode cX4_addBasket 2 = .ok (.getfield 18, 3) := by decide +kernel
theorem dX4_addBasket_5 : decode cX4_addBasket 5 = .ok (.aload_n 0, 1) := by decide +kernel
theorem dX4_addBasket_6 : decode cX4_addBasket 6 = .ok (.getfield 22, 3) := by decide +kernel
theorem dX4_addBasket_9 : decode cX4_addBasket 9 = .ok (.iload_n 2, 1) := by decide +kernel
theorem dX4_addBasket_10 : decode cX4_addBasket 10 = .ok (.aload_n 1, 1) := by decide +kernel
theorem dX4_addBasket_11 : decode cX4_addBasket 11 = .ok (.getfield 30, 3) := by decide +kernel
theorem dX4_addBasket_14 : decode cX4_addBasket 14 = .ok (.invokestatic 33, 3) := by decide +kernel
theorem dX4_addBasket_17 : decode cX4_addBasket 17 = .ok (.putfield 22, 3) := by decide +kernel
theorem dX4_addBasket_20 : decode cX4_addBasket 20 = .ok (.aload_n 0, 1) := by decide +kernel
theorem dX4_addBasket_21 : decode cX4_addBasket 21 = .ok (.getfield 9, 3) := by decide +kernel
theorem dX4_addBasket_24 : decode cX4_addBasket 24 = .ok (.aload_n 1, 1) := by decide +kernel
theorem dX4_addBasket_25 : decode cX4_addBasket 25 = .ok (.getfield 37, 3) := by decide +kernel
theorem dX4_addBasket_28 : decode cX4_addBasket 28 = .ok (.dup2, 1) := by decide +kernel
theorem dX4_addBasket_29 : decode cX4_addBasket 29 = .ok (.iaload, 1) := by decide +kernel
theorem dX4_addBasket_30 : decode cX4_addBasket 30 = .ok (.iload_n 2, 1) := by decide +kernel
theorem dX4_addBasket_31 : decode cX4_addBasket 31 = .ok (.iadd, 1) := by decide +kernel
theorem dX4_addBasket_32 : decode cX4_addBasket 32 = .ok (.iastore, 1) := by decide +kernel
theorem dX4_addBasket_33 : decode cX4_addBasket 33 = .ok (.aload_n 1, 1) := by decide +kernel
theorem dX4_addBasket_34 : decode cX4_addBasket 34 = .ok (.getfield 40, 3) := by decide +kernel
theorem dX4_addBasket_37 : decode cX4_addBasket 37 = .ok (.ifCond .eq 16, 3) := by decide +kernel
theorem dX4_addBasket_40 : decode cX4_addBasket 40 = .ok (.aload_n 0, 1) := by decide +kernel
theorem dX4_addBasket_41 : decode cX4_addBasket 41 = .ok (.getfield 15, 3) := by decide +kernel
theorem dX4_addBasket_44 : decode cX4_addBasket 44 = .ok (.aload_n 1, 1) := by decide +kernel
theorem dX4_addBasket_45 : decode cX4_addBasket 45 = .ok (.getfield 37, 3) := by decide +kernel
theorem dX4_addBasket_48 : decode cX4_addBasket 48 = .ok (.dup2, 1) := by decide +kernel
theorem dX4_addBasket_49 : decode cX4_addBasket 49 = .ok (.iaload, 1) := by decide +kernel
theorem dX4_addBasket_50 : decode cX4_addBasket 50 = .ok (.iload_n 2, 1) := by decide +kernel
theorem dX4_addBasket_51 : decode cX4_addBasket 51 = .ok (.iadd, 1) := by decide +kernel
theorem dX4_addBasket_52 : decode cX4_addBasket 52 = .ok (.iastore, 1) := by decide +kernel
theorem dX4_addBasket_53 : decode cX4_addBasket 53 = .ok (.aload_n 0, 1) := by decide +kernel
theorem dX4_addBasket_54 : decode cX4_addBasket 54 = .ok (.dup, 1) := by decide +kernel
theorem dX4_addBasket_55 : decode cX4_addBasket 55 = .ok (.getfield 18, 3) := by decide +kernel
theorem dX4_addBasket_58 : decode cX4_addBasket 58 = .ok (.iload_n 2, 1) := by decide +kernel
theorem dX4_addBasket_59 : decode cX4_addBasket 59 = .ok (.iadd, 1) := by decide +kernel
theorem dX4_addBasket_60 : decode cX4_addBasket 60 = .ok (.putfield 18, 3) := by decide +kernel
theorem dX4_addBasket_63 : decode cX4_addBasket 63 = .ok (.return_, 1) := by decide +kernel
theorem dX4_addMix_0 : decode cX4_addMix 0 = .ok (.aload_n 0, 1) := by decide +kernel
theorem dX4_addMix_1 : decode cX4_addMix 1 = .ok (.aload_n 0, 1) := by decide +kernel
theorem dX4_addMix_2 : decode cX4_addMix 2 = .ok (.getfield 18, 3) := by decide +kernel
theorem dX4_addMix_5 : decode cX4_addMix 5 = .ok (.aload_n 0, 1) := by decide +kernel
theorem dX4_addMix_6 : decode cX4_addMix 6 = .ok (.getfield 22, 3) := by decide +kernel
theorem dX4_addMix_9 : decode cX4_addMix 9 = .ok (.aload_n 1, 1) := by decide +kernel
theorem dX4_addMix_10 : decode cX4_addMix 10 = .ok (.getfield 18, 3) := by decide +kernel
theorem dX4_addMix_13 : decode cX4_addMix 13 = .ok (.aload_n 1, 1) := by decide +kernel
theorem dX4_addMix_14 : decode cX4_addMix 14 = .ok (.getfield 22, 3) := by decide +kernel
theorem dX4_addMix_17 : decode cX4_addMix 17 = .ok (.invokestatic 33, 3) := by decide +kernel
theorem dX4_addMix_20 : decode cX4_addMix 20 = .ok (.putfield 22, 3) := by decide +kernel
theorem dX4_addMix_23 : decode cX4_addMix 23 = .ok (.iconst 0, 1) := by decide +kernel
theorem dX4_addMix_24 : decode cX4_addMix 24 = .ok (.istore_n 2, 1) := by decide +kernel
theorem dX4_addMix_25 : decode cX4_addMix 25 = .ok (.iload_n 2, 1) := by decide +kernel
theorem dX4_addMix_26 : decode cX4_addMix 26 = .ok (.bipush 6, 2) := by decide +kernel
theorem dX4_addMix_28 : decode cX4_addMix 28 = .ok (.if_icmp .ge 39, 3) := by decide +kernel
theorem dX4_addMix_31 : decode cX4_addMix 31 = .ok (.aload_n 0, 1) := by decide +kernel
theorem dX4_addMix_32 : decode cX4_addMix 32 = .ok (.getfield 9, 3) := by decide +kernel
theorem dX4_addMix_35 : decode cX4_addMix 35 = .ok (.iload_n 2, 1) := by decide +kernel
theorem dX4_addMix_36 : decode cX4_addMix 36 = .ok (.dup2, 1) := by decide +kernel
theorem dX4_addMix_37 : decode cX4_addMix 37 = .ok (.iaload, 1) := by decide +kernel
theorem dX4_addMix_38 : decode cX4_addMix 38 = .ok (.aload_n 1, 1) := by decide +kernel
theorem dX4_addMix_39 : decode cX4_addMix 39 = .ok (.getfield 9, 3) := by decide +kernel
theorem dX4_addMix_42 : decode cX4_addMix 42 = .ok (.iload_n 2, 1) := by decide +kernel
theorem dX4_addMix_43 : decode cX4_addMix 43 = .ok (.iaload, 1) := by decide +kernel
theorem dX4_addMix_44 : decode cX4_addMix 44 = .ok (.iadd, 1) := by decide +kernel
theorem dX4_addMix_45 : decode cX4_addMix 45 = .ok (.iastore, 1) := by decide +kernel
theorem dX4_addMix_46 : decode cX4_addMix 46 = .ok (.aload_n 0, 1) := by decide +kernel
theorem dX4_addMix_47 : decode cX4_addMix 47 = .ok (.getfield 15, 3) := by decide +kernel
theorem dX4_addMix_50 : decode cX4_addMix 50 = .ok (.iload_n 2, 1) := by decide +kernel
theorem dX4_addMix_51 : decode cX4_addMix 51 = .ok (.dup2, 1) := by decide +kernel
theorem dX4_addMix_52 : decode cX4_addMix 52 = .ok (.iaload, 1) := by decide +kernel
theorem dX4_addMix_53 : decode cX4_addMix 53 = .ok (.aload_n 1, 1) := by decide +kernel
theorem dX4_addMix_54 : decode cX4_addMix 54 = .ok (.getfield 15, 3) := by decide +kernel
theorem dX4_addMix_57 : decode cX4_addMix 57 = .ok (.iload_n 2, 1) := by decide +kernel
theorem dX4_addMix_58 : decode cX4_addMix 58 = .ok (.iaload, 1) := by decide +kernel
theorem dX4_addMix_59 : decode cX4_addMix 59 = .ok (.iadd, 1) := by decide +kernel
theorem dX4_addMix_60 : decode cX4_addMix 60 = .ok (.iastore, 1) := by decide +kernel
theorem dX4_addMix_61 : decode cX4_addMix 61 = .ok (.iinc 2 1, 3) := by decide +kernel
theorem dX4_addMix_64 : decode cX4_addMix 64 = .ok (.goto (-39), 3) := by decide +kernel
theorem dX4_addMix_67 : decode cX4_addMix 67 = .ok (.aload_n 0, 1) := by decide +kernel
theorem dX4_addMix_68 : decode cX4_addMix 68 = .ok (.dup, 1) := by decide +kernel
theorem dX4_addMix_69 : decode cX4_addMix 69 = .ok (.getfield 18, 3) := by decide +kernel
theorem dX4_addMix_72 : decode cX4_addMix 72 = .ok (.aload_n 1, 1) := by decide +kernel
theorem dX4_addMix_73 : decode cX4_addMix 73 = .ok (.getfield 18, 3) := by decide +kernel
theorem dX4_addMix_76 : decode cX4_addMix 76 = .ok (.iadd, 1) := by decide +kernel
theorem dX4_addMix_77 : decode cX4_addMix 77 = .ok (.putfield 18, 3) := by decide +kernel
theorem dX4_addMix_80 : decode cX4_addMix 80 = .ok (.return_, 1) := by decide +kernel
theorem dX5_init_0 : decode cX5_init 0 = .ok (.aload_n 0, 1) := by decide +kernel
theorem dX5_init_1 : decode cX5_init 1 = .ok (.invokespecial 1, 3) := by decide +kernel
theorem dX5_init_4 : decode cX5_init 4 = .ok (.aload_n 0, 1) := by decide +kernel
theorem dX5_init_5 : decode cX5_init 5 = .ok (.new 7, 3) := by decide +kernel
theorem dX5_init_8 : decode cX5_init 8 = .ok (.dup, 1) := by decide +kernel
theorem dX5_init_9 : decode cX5_init 9 = .ok (.invokespecial 9, 3) := by decide +kernel
theorem dX5_init_12 : decode cX5_init 12 = .ok (.putfield 10, 3) := by decide +kernel
theorem dX5_init_15 : decode cX5_init 15 = .ok (.aload_n 0, 1) := by decide +kernel
theorem dX5_init_16 : decode cX5_init 16 = .ok (.iconst 0, 1) := by decide +kernel
theorem dX5_init_17 : decode cX5_init 17 = .ok (.putfield 16, 3) := by decide +kernel
theorem dX5_init_20 : decode cX5_init 20 = .ok (.aload_n 0, 1) := by decide +kernel
theorem dX5_init_21 : decode cX5_init 21 = .ok (.iconst 0, 1) := by decide +kernel
theorem dX5_init_22 : decode cX5_init 22 = .ok (.putfield 20, 3) := by decide +kernel
theorem dX5_init_25 : decode cX5_init 25 = .ok (.return_, 1) := by decide +kernel
theorem dX5_takes_0 : decode cX5_takes 0 = .ok (.aload_n 0, 1) := by decide +kernel
theorem dX5_takes_1 : decode cX5_takes 1 = .ok (.getfield 10, 3) := by decide +kernel
theorem dX5_takes_4 : decode cX5_takes 4 = .ok (.invokevirtual 23, 3) := by decide +kernel
theorem dX5_takes_7 : decode cX5_takes 7 = .ok (.ifCond .ne 12, 3) := by decide +kernel
theorem dX5_takes_10 : decode cX5_takes 10 = .ok (.aload_n 0, 1) := by decide +kernel
theorem dX5_takes_11 : decode cX5_takes 11 = .ok (.getfield 16, 3) := by decide +kernel
theorem dX5_takes_14 : decode cX5_takes 14 = .ok (.bipush 8, 2) := by decide +kernel
theorem dX5_takes_16 : decode cX5_takes 16 = .ok (.if_icmp .gt 22, 3) := by decide +kernel
theorem dX5_takes_19 : decode cX5_takes 19 = .ok (.aload_n 0, 1) := by decide +kernel
theorem dX5_takes_20 : decode cX5_takes 20 = .ok (.getfield 10, 3) := by decide +kernel
theorem dX5_takes_23 : decode cX5_takes 23 = .ok (.getfield 27, 3) := by decide +kernel
theorem dX5_takes_26 : decode cX5_takes 26 = .ok (.iload_n 1, 1) := by decide +kernel
theorem dX5_takes_27 : decode cX5_takes 27 = .ok (.iadd, 1) := by decide +kernel
theorem dX5_takes_28 : decode cX5_takes 28 = .ok (.sipush 300, 3) := by decide +kernel
theorem dX5_takes_31 : decode cX5_takes 31 = .ok (.if_icmp .gt 7, 3) := by decide +kernel
theorem dX5_takes_34 : decode cX5_takes 34 = .ok (.iconst 1, 1) := by decide +kernel
theorem dX5_takes_35 : decode cX5_takes 35 = .ok (.goto 4, 3) := by decide +kernel
theorem dX5_takes_38 : decode cX5_takes 38 = .ok (.iconst 0, 1) := by decide +kernel
theorem dX5_takes_39 : decode cX5_takes 39 = .ok (.ireturn, 1) := by decide +kernel
theorem dX5_pointsAnHour_0 : decode cX5_pointsAnHour 0 = .ok (.iload_n 1, 1) := by decide +kernel
theorem dX5_pointsAnHour_1 : decode cX5_pointsAnHour 1 = .ok (.iconst 4, 1) := by decide +kernel
theorem dX5_pointsAnHour_2 : decode cX5_pointsAnHour 2 = .ok (.idiv, 1) := by decide +kernel
theorem dX5_pointsAnHour_3 : decode cX5_pointsAnHour 3 = .ok (.aload_n 0, 1) := by decide +kernel
theorem dX5_pointsAnHour_4 : decode cX5_pointsAnHour 4 = .ok (.getfield 10, 3) := by decide +kernel
theorem dX5_pointsAnHour_7 : decode cX5_pointsAnHour 7 = .ok (.getfield 27, 3) := by decide +kernel
theorem dX5_pointsAnHour_10 : decode cX5_pointsAnHour 10 = .ok (.bipush 100, 2) := by decide +kernel
theorem dX5_pointsAnHour_12 : decode cX5_pointsAnHour 12 = .ok (.idiv, 1) := by decide +kernel
theorem dX5_pointsAnHour_13 : decode cX5_pointsAnHour 13 = .ok (.iadd, 1) := by decide +kernel
theorem dX5_pointsAnHour_14 : decode cX5_pointsAnHour 14 = .ok (.ireturn, 1) := by decide +kernel
theorem dX5_passHour_0 : decode cX5_passHour 0 = .ok (.aload_n 0, 1) := by decide +kernel
theorem dX5_passHour_1 : decode cX5_passHour 1 = .ok (.getfield 10, 3) := by decide +kernel
theorem dX5_passHour_4 : decode cX5_passHour 4 = .ok (.invokevirtual 23, 3) := by decide +kernel
theorem dX5_passHour_7 : decode cX5_passHour 7 = .ok (.ifCond .ne 27, 3) := by decide +kernel
theorem dX5_passHour_10 : decode cX5_passHour 10 = .ok (.aload_n 0, 1) := by decide +kernel
theorem dX5_passHour_11 : decode cX5_passHour 11 = .ok (.dup, 1) := by decide +kernel
theorem dX5_passHour_12 : decode cX5_passHour 12 = .ok (.getfield 16, 3) := by decide +kernel
theorem dX5_passHour_15 : decode cX5_passHour 15 = .ok (.iconst 1, 1) := by decide +kernel
theorem dX5_passHour_16 : decode cX5_passHour 16 = .ok (.iadd, 1) := by decide +kernel
theorem dX5_passHour_17 : decode cX5_passHour 17 = .ok (.putfield 16, 3) := by decide +kernel
theorem dX5_passHour_20 : decode cX5_passHour 20 = .ok (.aload_n 0, 1) := by decide +kernel
theorem dX5_passHour_21 : decode cX5_passHour 21 = .ok (.dup, 1) := by decide +kernel
theorem dX5_passHour_22 : decode cX5_passHour 22 = .ok (.getfield 20, 3) := by decide +kernel
theorem dX5_passHour_25 : decode cX5_passHour 25 = .ok (.aload_n 0, 1) := by decide +kernel
theorem dX5_passHour_26 : decode cX5_passHour 26 = .ok (.iload_n 1, 1) := by decide +kernel
theorem dX5_passHour_27 : decode cX5_passHour 27 = .ok (.invokevirtual 30, 3) := by decide +kernel
theorem dX5_passHour_30 : decode cX5_passHour 30 = .ok (.iadd, 1) := by decide +kernel
theorem dX5_passHour_31 : decode cX5_passHour 31 = .ok (.putfield 20, 3) := by decide +kernel
theorem dX5_passHour_34 : decode cX5_passHour 34 = .ok (.return_, 1) := by decide +kernel
theorem dX5_empty_0 : decode cX5_empty 0 = .ok (.aload_n 0, 1) := by decide +kernel
theorem dX5_empty_1 : decode cX5_empty 1 = .ok (.getfield 10, 3) := by decide +kernel
theorem dX5_empty_4 : decode cX5_empty 4 = .ok (.invokevirtual 34, 3) := by decide +kernel
theorem dX5_empty_7 : decode cX5_empty 7 = .ok (.aload_n 0, 1) := by decide +kernel
theorem dX5_empty_8 : decode cX5_empty 8 = .ok (.iconst 0, 1) := by decide +kernel
theorem dX5_empty_9 : decode cX5_empty 9 = .ok (.putfield 16, 3) := by decide +kernel
theorem dX5_empty_12 : decode cX5_empty 12 = .ok (.aload_n 0, 1) := by decide +kernel
theorem dX5_empty_13 : decode cX5_empty 13 = .ok (.iconst 0, 1) := by decide +kernel
theorem dX5_empty_14 : decode cX5_empty 14 = .ok (.putfield 20, 3) := by decide +kernel
theorem dX5_empty_17 : decode cX5_empty 17 = .ok (.return_, 1) := by decide +kernel
theorem dX6_init_0 : decode cX6_init 0 = .ok (.aload_n 0, 1) := by decide +kernel
theorem dX6_init_1 : decode cX6_init 1 = .ok (.invokespecial 1, 3) := by decide +kernel
theorem dX6_init_4 : decode cX6_init 4 = .ok (.aload_n 0, 1) := by decide +kernel
theorem dX6_init_5 : decode cX6_init 5 = .ok (.bipush 6, 2) := by decide +kernel
theorem dX6_init_7 : decode cX6_init 7 = .ok (.anewarray 9, 3) := by decide +kernel
theorem dX6_init_10 : decode cX6_init 10 = .ok (.putfield 11, 3) := by decide +kernel
theorem dX6_init_13 : decode cX6_init 13 = .ok (.aload_n 0, 1) := by decide +kernel
theorem dX6_init_14 : decode cX6_init 14 = .ok (.bipush 20, 2) := by decide +kernel
theorem dX6_init_16 : decode cX6_init 16 = .ok (.anewarray 15, 3) := by decide +kernel
theorem dX6_init_19 : decode cX6_init 19 = .ok (.putfield 17, 3) := by decide +kernel
theorem dX6_init_22 : decode cX6_init 22 = .ok (.aload_n 0, 1) := by decide +kernel
theorem dX6_init_23 : decode cX6_init 23 = .ok (.iconst 3, 1) := by decide +kernel
theorem dX6_init_24 : decode cX6_init 24 = .ok (.anewarray 21, 3) := by decide +kernel
theorem dX6_init_27 : decode cX6_init 27 = .ok (.putfield 23, 3) := by decide +kernel
theorem dX6_init_30 : decode cX6_init 30 = .ok (.aload_n 0, 1) := by decide +kernel
theorem dX6_init_31 : decode cX6_init 31 = .ok (.iconst 5, 1) := by decide +kernel
theorem dX6_init_32 : decode cX6_init 32 = .ok (.anewarray 27, 3) := by decide +kernel
theorem dX6_init_35 : decode cX6_init 35 = .ok (.putfield 29, 3) := by decide +kernel
theorem dX6_init_38 : decode cX6_init 38 = .ok (.aload_n 0, 1) := by decide +kernel
theorem dX6_init_39 : decode cX6_init 39 = .ok (.bipush 12, 2) := by decide +kernel
theorem dX6_init_41 : decode cX6_init 41 = .ok (.anewarray 33, 3) := by decide +kernel
theorem dX6_init_44 : decode cX6_init 44 = .ok (.putfield 35, 3) := by decide +kernel
theorem dX6_init_47 : decode cX6_init 47 = .ok (.aload_n 0, 1) := by decide +kernel
theorem dX6_init_48 : decode cX6_init 48 = .ok (.new 33, 3) := by decide +kernel
theorem dX6_init_51 : decode cX6_init 51 = .ok (.dup, 1) := by decide +kernel
theorem dX6_init_52 : decode cX6_init 52 = .ok (.invokespecial 39, 3) := by decide +kernel
theorem dX6_init_55 : decode cX6_init 55 = .ok (.putfield 40, 3) := by decide +kernel
theorem dX6_init_58 : decode cX6_init 58 = .ok (.aload_n 0, 1) := by decide +kernel
theorem dX6_init_59 : decode cX6_init 59 = .ok (.iconst 3, 1) := by decide +kernel
theorem dX6_init_60 : decode cX6_init 60 = .ok (.newarray .int, 2) := by decide +kernel
theorem dX6_init_62 : decode cX6_init 62 = .ok (.putfield 44, 3) := by decide +kernel
theorem dX6_init_65 : decode cX6_init 65 = .ok (.aload_n 0, 1) := by decide +kernel
theorem dX6_init_66 : decode cX6_init 66 = .ok (.iconst 0, 1) := by decide +kernel
theorem dX6_init_67 : decode cX6_init 67 = .ok (.putfield 48, 3) := by decide +kernel
theorem dX6_init_70 : decode cX6_init 70 = .ok (.aload_n 0, 1) := by decide +kernel
theorem dX6_init_71 : decode cX6_init 71 = .ok (.iconst 0, 1) := by decide +kernel
theorem dX6_init_72 : decode cX6_init 72 = .ok (.putfield 52, 3) := by decide +kernel
theorem dX6_init_75 : decode cX6_init 75 = .ok (.aload_n 0, 1) := by decide +kernel
theorem dX6_init_76 : decode cX6_init 76 = .ok (.iconst 0, 1) := by decide +kernel
theorem dX6_init_77 : decode cX6_init 77 = .ok (.putfield 55, 3) := by decide +kernel
theorem dX6_init_80 : decode cX6_init 80 = .ok (.aload_n 0, 1) := by decide +kernel
theorem dX6_init_81 : decode cX6_init 81 = .ok (.iconst 0, 1) := by decide +kernel
theorem dX6_init_82 : decode cX6_init 82 = .ok (.putfield 58, 3) := by decide +kernel
theorem dX6_init_85 : decode cX6_init 85 = .ok (.aload_n 0, 1) := by decide +kernel
theorem dX6_init_86 : decode cX6_init 86 = .ok (.iconst 0, 1) := by decide +kernel
theorem dX6_init_87 : decode cX6_init 87 = .ok (.putfield 61, 3) := by decide +kernel
theorem dX6_init_90 : decode cX6_init 90 = .ok (.aload_n 0, 1) := by decide +kernel
