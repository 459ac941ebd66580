theorem dX6_readyIn_30 : decode cX6_readyIn 30 = .ok (.if_icmp .gt 30, 3) := by decide +kernel
theorem dX6_readyIn_33 : decode cX6_readyIn 33 = .ok (.aload_n 3, 1) := by decide +kernel
theorem dX6_readyIn_34 : decode cX6_readyIn 34 = .ok (.getfield 181, 3) := by decide +kernel
theorem dX6_readyIn_37 : decode cX6_readyIn 37 = .ok (.iload 4, 2) := by decide +kernel
theorem dX6_readyIn_39 : decode cX6_readyIn 39 = .ok (.aload_n 3, 1) := by decide +kernel
theorem dX6_readyIn_40 : decode cX6_readyIn 40 = .ok (.iload_n 2, 1) := by decide +kernel
theorem dX6_readyIn_41 : decode cX6_readyIn 41 = .ok (.invokevirtual 351, 3) := by decide +kernel
theorem dX6_readyIn_44 : decode cX6_readyIn 44 = .ok (.imul, 1) := by decide +kernel
theorem dX6_readyIn_45 : decode cX6_readyIn 45 = .ok (.iadd, 1) := by decide +kernel
theorem dX6_readyIn_46 : decode cX6_readyIn 46 = .ok (.bipush 60, 2) := by decide +kernel
theorem dX6_readyIn_48 : decode cX6_readyIn 48 = .ok (.if_icmp .lt 6, 3) := by decide +kernel
theorem dX6_readyIn_51 : decode cX6_readyIn 51 = .ok (.iload 4, 2) := by decide +kernel
theorem dX6_readyIn_53 : decode cX6_readyIn 53 = .ok (.ireturn, 1) := by decide +kernel
theorem dX6_readyIn_54 : decode cX6_readyIn 54 = .ok (.iinc 4 1, 3) := by decide +kernel
theorem dX6_readyIn_57 : decode cX6_readyIn 57 = .ok (.goto (-32), 3) := by decide +kernel
theorem dX6_readyIn_60 : decode cX6_readyIn 60 = .ok (.iconst (-1), 1) := by decide +kernel
theorem dX6_readyIn_61 : decode cX6_readyIn 61 = .ok (.ireturn, 1) := by decide +kernel
theorem dX6_dryIn_0 : decode cX6_dryIn 0 = .ok (.aload_n 0, 1) := by decide +kernel
theorem dX6_dryIn_1 : decode cX6_dryIn 1 = .ok (.iload_n 1, 1) := by decide +kernel
theorem dX6_dryIn_2 : decode cX6_dryIn 2 = .ok (.invokevirtual 172, 3) := by decide +kernel
theorem dX6_dryIn_5 : decode cX6_dryIn 5 = .ok (.astore_n 3, 1) := by decide +kernel
theorem dX6_dryIn_6 : decode cX6_dryIn 6 = .ok (.iload_n 2, 1) := by decide +kernel
theorem dX6_dryIn_7 : decode cX6_dryIn 7 = .ok (.invokestatic 348, 3) := by decide +kernel
theorem dX6_dryIn_10 : decode cX6_dryIn 10 = .ok (.aload_n 3, 1) := by decide +kernel
theorem dX6_dryIn_11 : decode cX6_dryIn 11 = .ok (.getfield 190, 3) := by decide +kernel
theorem dX6_dryIn_14 : decode cX6_dryIn 14 = .ok (.invokevirtual 176, 3) := by decide +kernel
theorem dX6_dryIn_17 : decode cX6_dryIn 17 = .ok (.ifCond .eq 5, 3) := by decide +kernel
theorem dX6_dryIn_20 : decode cX6_dryIn 20 = .ok (.iconst (-1), 1) := by decide +kernel
theorem dX6_dryIn_21 : decode cX6_dryIn 21 = .ok (.ireturn, 1) := by decide +kernel
theorem dX6_dryIn_22 : decode cX6_dryIn 22 = .ok (.aload_n 3, 1) := by decide +kernel
theorem dX6_dryIn_23 : decode cX6_dryIn 23 = .ok (.getfield 300, 3) := by decide +kernel
theorem dX6_dryIn_26 : decode cX6_dryIn 26 = .ok (.istore 4, 2) := by decide +kernel
theorem dX6_dryIn_28 : decode cX6_dryIn 28 = .ok (.iconst 0, 1) := by decide +kernel
theorem dX6_dryIn_29 : decode cX6_dryIn 29 = .ok (.istore 5, 2) := by decide +kernel
theorem dX6_dryIn_31 : decode cX6_dryIn 31 = .ok (.iload 5, 2) := by decide +kernel
theorem dX6_dryIn_33 : decode cX6_dryIn 33 = .ok (.sipush 400, 3) := by decide +kernel
theorem dX6_dryIn_36 : decode cX6_dryIn 36 = .ok (.if_icmp .gt 40, 3) := by decide +kernel
theorem dX6_dryIn_39 : decode cX6_dryIn 39 = .ok (.iload 5, 2) := by decide +kernel
theorem dX6_dryIn_41 : decode cX6_dryIn 41 = .ok (.ifCond .le 19, 3) := by decide +kernel
theorem dX6_dryIn_44 : decode cX6_dryIn 44 = .ok (.aload_n 3, 1) := by decide +kernel
theorem dX6_dryIn_45 : decode cX6_dryIn 45 = .ok (.iload 4, 2) := by decide +kernel
theorem dX6_dryIn_47 : decode cX6_dryIn 47 = .ok (.aload_n 0, 1) := by decide +kernel
theorem dX6_dryIn_48 : decode cX6_dryIn 48 = .ok (.getfield 61, 3) := by decide +kernel
theorem dX6_dryIn_51 : decode cX6_dryIn 51 = .ok (.iload 5, 2) := by decide +kernel
theorem dX6_dryIn_53 : decode cX6_dryIn 53 = .ok (.iadd, 1) := by decide +kernel
theorem dX6_dryIn_54 : decode cX6_dryIn 54 = .ok (.iload_n 2, 1) := by decide +kernel
theorem dX6_dryIn_55 : decode cX6_dryIn 55 = .ok (.invokevirtual 354, 3) := by decide +kernel
theorem dX6_dryIn_58 : decode cX6_dryIn 58 = .ok (.istore 4, 2) := by decide +kernel
theorem dX6_dryIn_60 : decode cX6_dryIn 60 = .ok (.iload 4, 2) := by decide +kernel
theorem dX6_dryIn_62 : decode cX6_dryIn 62 = .ok (.bipush 125, 2) := by decide +kernel
theorem dX6_dryIn_64 : decode cX6_dryIn 64 = .ok (.if_icmp .gt 6, 3) := by decide +kernel
theorem dX6_dryIn_67 : decode cX6_dryIn 67 = .ok (.iload 5, 2) := by decide +kernel
theorem dX6_dryIn_69 : decode cX6_dryIn 69 = .ok (.ireturn, 1) := by decide +kernel
theorem dX6_dryIn_70 : decode cX6_dryIn 70 = .ok (.iinc 5 1, 3) := by decide +kernel
theorem dX6_dryIn_73 : decode cX6_dryIn 73 = .ok (.goto (-42), 3) := by decide +kernel
theorem dX6_dryIn_76 : decode cX6_dryIn 76 = .ok (.iconst (-1), 1) := by decide +kernel
theorem dX6_dryIn_77 : decode cX6_dryIn 77 = .ok (.ireturn, 1) := by decide +kernel
theorem dX6_bestBlend_0 : decode cX6_bestBlend 0 = .ok (.iconst (-1), 1) := by decide +kernel
theorem dX6_bestBlend_1 : decode cX6_bestBlend 1 = .ok (.istore_n 1, 1) := by decide +kernel
theorem dX6_bestBlend_2 : decode cX6_bestBlend 2 = .ok (.iconst (-1), 1) := by decide +kernel
theorem dX6_bestBlend_3 : decode cX6_bestBlend 3 = .ok (.istore_n 2, 1) := by decide +kernel
theorem dX6_bestBlend_4 : decode cX6_bestBlend 4 = .ok (.iconst 0, 1) := by decide +kernel
theorem dX6_bestBlend_5 : decode cX6_bestBlend 5 = .ok (.istore_n 3, 1) := by decide +kernel
theorem dX6_bestBlend_6 : decode cX6_bestBlend 6 = .ok (.iload_n 3, 1) := by decide +kernel
theorem dX6_bestBlend_7 : decode cX6_bestBlend 7 = .ok (.aload_n 0, 1) := by decide +kernel
theorem dX6_bestBlend_8 : decode cX6_bestBlend 8 = .ok (.getfield 58, 3) := by decide +kernel
theorem dX6_bestBlend_11 : decode cX6_bestBlend 11 = .ok (.if_icmp .ge 88, 3) := by decide +kernel
theorem dX6_bestBlend_14 : decode cX6_bestBlend 14 = .ok (.iload_n 3, 1) := by decide +kernel
theorem dX6_bestBlend_15 : decode cX6_bestBlend 15 = .ok (.iconst 1, 1) := by decide +kernel
theorem dX6_bestBlend_16 : decode cX6_bestBlend 16 = .ok (.iadd, 1) := by decide +kernel
theorem dX6_bestBlend_17 : decode cX6_bestBlend 17 = .ok (.istore 4, 2) := by decide +kernel
theorem dX6_bestBlend_19 : decode cX6_bestBlend 19 = .ok (.iload 4, 2) := by decide +kernel
theorem dX6_bestBlend_21 : decode cX6_bestBlend 21 = .ok (.aload_n 0, 1) := by decide +kernel
theorem dX6_bestBlend_22 : decode cX6_bestBlend 22 = .ok (.getfield 58, 3) := by decide +kernel
theorem dX6_bestBlend_25 : decode cX6_bestBlend 25 = .ok (.if_icmp .ge 68, 3) := by decide +kernel
theorem dX6_bestBlend_28 : decode cX6_bestBlend 28 = .ok (.aload_n 0, 1) := by decide +kernel
theorem dX6_bestBlend_29 : decode cX6_bestBlend 29 = .ok (.getfield 35, 3) := by decide +kernel
theorem dX6_bestBlend_32 : decode cX6_bestBlend 32 = .ok (.iload_n 3, 1) := by decide +kernel
theorem dX6_bestBlend_33 : decode cX6_bestBlend 33 = .ok (.aaload, 1) := by decide +kernel
theorem dX6_bestBlend_34 : decode cX6_bestBlend 34 = .ok (.aload_n 0, 1) := by decide +kernel
theorem dX6_bestBlend_35 : decode cX6_bestBlend 35 = .ok (.getfield 35, 3) := by decide +kernel
theorem dX6_bestBlend_38 : decode cX6_bestBlend 38 = .ok (.iload 4, 2) := by decide +kernel
theorem dX6_bestBlend_40 : decode cX6_bestBlend 40 = .ok (.aaload, 1) := by decide +kernel
theorem dX6_bestBlend_41 : decode cX6_bestBlend 41 = .ok (.invokevirtual 245, 3) := by decide +kernel
theorem dX6_bestBlend_44 : decode cX6_bestBlend 44 = .ok (.ifCond .eq 23, 3) := by decide +kernel
theorem dX6_bestBlend_47 : decode cX6_bestBlend 47 = .ok (.aload_n 0, 1) := by decide +kernel
theorem dX6_bestBlend_48 : decode cX6_bestBlend 48 = .ok (.aload_n 0, 1) := by decide +kernel
theorem dX6_bestBlend_49 : decode cX6_bestBlend 49 = .ok (.getfield 35, 3) := by decide +kernel
theorem dX6_bestBlend_52 : decode cX6_bestBlend 52 = .ok (.iload_n 3, 1) := by decide +kernel
theorem dX6_bestBlend_53 : decode cX6_bestBlend 53 = .ok (.aaload, 1) := by decide +kernel
theorem dX6_bestBlend_54 : decode cX6_bestBlend 54 = .ok (.aload_n 0, 1) := by decide +kernel
theorem dX6_bestBlend_55 : decode cX6_bestBlend 55 = .ok (.getfield 35, 3) := by decide +kernel
theorem dX6_bestBlend_58 : decode cX6_bestBlend 58 = .ok (.iload 4, 2) := by decide +kernel
theorem dX6_bestBlend_60 : decode cX6_bestBlend 60 = .ok (.aaload, 1) := by decide +kernel
theorem dX6_bestBlend_61 : decode cX6_bestBlend 61 = .ok (.invokevirtual 358, 3) := by decide +kernel
theorem dX6_bestBlend_64 : decode cX6_bestBlend 64 = .ok (.goto 4, 3) := by decide +kernel
theorem dX6_bestBlend_67 : decode cX6_bestBlend 67 = .ok (.iconst (-1), 1) := by decide +kernel
theorem dX6_bestBlend_68 : decode cX6_bestBlend 68 = .ok (.istore 5, 2) := by decide +kernel
theorem dX6_bestBlend_70 : decode cX6_bestBlend 70 = .ok (.iload 5, 2) := by decide +kernel
theorem dX6_bestBlend_72 : decode cX6_bestBlend 72 = .ok (.iload_n 2, 1) := by decide +kernel
theorem dX6_bestBlend_73 : decode cX6_bestBlend 73 = .ok (.if_icmp .le 14, 3) := by decide +kernel
theorem dX6_bestBlend_76 : decode cX6_bestBlend 76 = .ok (.iload 5, 2) := by decide +kernel
theorem dX6_bestBlend_78 : decode cX6_bestBlend 78 = .ok (.istore_n 2, 1) := by decide +kernel
theorem dX6_bestBlend_79 : decode cX6_bestBlend 79 = .ok (.bipush 20, 2) := by decide +kernel
theorem dX6_bestBlend_81 : decode cX6_bestBlend 81 = .ok (.iload_n 3, 1) := by decide +kernel
theorem dX6_bestBlend_82 : decode cX6_bestBlend 82 = .ok (.imul, 1) := by decide +kernel
theorem dX6_bestBlend_83 : decode cX6_bestBlend 83 = .ok (.iload 4, 2) := by decide +kernel
theorem dX6_bestBlend_85 : decode cX6_bestBlend 85 = .ok (.iadd, 1) := by decide +kernel
theorem dX6_bestBlend_86 : decode cX6_bestBlend 86 = .ok (.istore_n 1, 1) := by decide +kernel
theorem dX6_bestBlend_87 : decode cX6_bestBlend 87 = .ok (.iinc 4 1, 3) := by decide +kernel
theorem dX6_bestBlend_90 : decode cX6_bestBlend 90 = .ok (.goto (-71), 3) := by decide +kernel
theorem dX6_bestBlend_93 : decode cX6_bestBlend 93 = .ok (.iinc 3 1, 3) := by decide +kernel
theorem dX6_bestBlend_96 : decode cX6_bestBlend 96 = .ok (.goto (-90), 3) := by decide +kernel
theorem dX6_bestBlend_99 : decode cX6_bestBlend 99 = .ok (.iload_n 1, 1) := by decide +kernel
theorem dX6_bestBlend_100 : decode cX6_bestBlend 100 = .ok (.ireturn, 1) := by decide +kernel
theorem dX6_digest_0 : decode cX6_digest 0 = .ok (.ldc2_w 362, 3) := by decide +kernel
theorem dX6_digest_3 : decode cX6_digest 3 = .ok (.lstore_n 1, 1) := by decide +kernel
theorem dX6_digest_4 : decode cX6_digest 4 = .ok (.iconst 0, 1) := by decide +kernel
theorem dX6_digest_5 : decode cX6_digest 5 = .ok (.istore_n 3, 1) := by decide +kernel
theorem dX6_digest_6 : decode cX6_digest 6 = .ok (.iload_n 3, 1) := by decide +kernel
theorem dX6_digest_7 : decode cX6_digest 7 = .ok (.bipush 15, 2) := by decide +kernel
theorem dX6_digest_9 : decode cX6_digest 9 = .ok (.if_icmp .gt 22, 3) := by decide +kernel
theorem dX6_digest_12 : decode cX6_digest 12 = .ok (.lload_n 1, 1) := by decide +kernel
theorem dX6_digest_13 : decode cX6_digest 13 = .ok (.ldc2_w 364, 3) := by decide +kernel
theorem dX6_digest_16 : decode cX6_digest 16 = .ok (.lmul, 1) := by decide +kernel
theorem dX6_digest_17 : decode cX6_digest 17 = .ok (.aload_n 0, 1) := by decide +kernel
theorem dX6_digest_18 : decode cX6_digest 18 = .ok (.iload_n 3, 1) := by decide +kernel
theorem dX6_digest_19 : decode cX6_digest 19 = .ok (.invokevirtual 366, 3) := by decide +kernel
theorem dX6_digest_22 : decode cX6_digest 22 = .ok (.i2l, 1) := by decide +kernel
theorem dX6_digest_23 : decode cX6_digest 23 = .ok (.ladd, 1) := by decide +kernel
theorem dX6_digest_24 : decode cX6_digest 24 = .ok (.lstore_n 1, 1) := by decide +kernel
theorem dX6_digest_25 : decode cX6_digest 25 = .ok (.iinc 3 1, 3) := by decide +kernel
theorem dX6_digest_28 : decode cX6_digest 28 = .ok (.goto (-22), 3) := by decide +kernel
theorem dX6_digest_31 : decode cX6_digest 31 = .ok (.aload_n 0, 1) := by decide +kernel
theorem dX6_digest_32 : decode cX6_digest 32 = .ok (.lload_n 1, 1) := by decide +kernel
theorem dX6_digest_33 : decode cX6_digest 33 = .ok (.invokevirtual 369, 3) := by decide +kernel
theorem dX6_digest_36 : decode cX6_digest 36 = .ok (.lstore_n 1, 1) := by decide +kernel
theorem dX6_digest_37 : decode cX6_digest 37 = .ok (.aload_n 0, 1) := by decide +kernel
theorem dX6_digest_38 : decode cX6_digest 38 = .ok (.lload_n 1, 1) := by decide +kernel
theorem dX6_digest_39 : decode cX6_digest 39 = .ok (.invokevirtual 373, 3) := by decide +kernel
theorem dX6_digest_42 : decode cX6_digest 42 = .ok (.lstore_n 1, 1) := by decide +kernel
theorem dX6_digest_43 : decode cX6_digest 43 = .ok (.aload_n 0, 1) := by decide +kernel
theorem dX6_digest_44 : decode cX6_digest 44 = .ok (.lload_n 1, 1) := by decide +kernel
theorem dX6_digest_45 : decode cX6_digest 45 = .ok (.invokevirtual 376, 3) := by decide +kernel
theorem dX6_digest_48 : decode cX6_digest 48 = .ok (.lstore_n 1, 1) := by decide +kernel
theorem dX6_digest_49 : decode cX6_digest 49 = .ok (.aload_n 0, 1) := by decide +kernel
theorem dX6_digest_50 : decode cX6_digest 50 = .ok (.lload_n 1, 1) := by decide +kernel
theorem dX6_digest_51 : decode cX6_digest 51 = .ok (.invokevirtual 379, 3) := by decide +kernel
theorem dX6_digest_54 : decode cX6_digest 54 = .ok (.lstore_n 1, 1) := by decide +kernel
theorem dX6_digest_55 : decode cX6_digest 55 = .ok (.aload_n 0, 1) := by decide +kernel
theorem dX6_digest_56 : decode cX6_digest 56 = .ok (.lload_n 1, 1) := by decide +kernel
theorem dX6_digest_57 : decode cX6_digest 57 = .ok (.invokevirtual 382, 3) := by decide +kernel
theorem dX6_digest_60 : decode cX6_digest 60 = .ok (.lstore_n 1, 1) := by decide +kernel
theorem dX6_digest_61 : decode cX6_digest 61 = .ok (.lload_n 1, 1) := by decide +kernel
theorem dX6_digest_62 : decode cX6_digest 62 = .ok (.ldc2_w 364, 3) := by decide +kernel
theorem dX6_digest_65 : decode cX6_digest 65 = .ok (.lmul, 1) := by decide +kernel
theorem dX6_digest_66 : decode cX6_digest 66 = .ok (.aload_n 0, 1) := by decide +kernel
theorem dX6_digest_67 : decode cX6_digest 67 = .ok (.invokevirtual 385, 3) := by decide +kernel
theorem dX6_digest_70 : decode cX6_digest 70 = .ok (.i2l, 1) := by decide +kernel
theorem dX6_digest_71 : decode cX6_digest 71 = .ok (.ladd, 1) := by decide +kernel
theorem dX6_digest_72 : decode cX6_digest 72 = .ok (.lreturn, 1) := by decide +kernel
theorem dX6_digestFarms_0 : decode cX6_digestFarms 0 = .ok (.lload_n 1, 1) := by decide +kernel
theorem dX6_digestFarms_1 : decode cX6_digestFarms 1 = .ok (.lstore_n 3, 1) := by decide +kernel
theorem dX6_digestFarms_2 : decode cX6_digestFarms 2 = .ok (.iconst 0, 1) := by decide +kernel
theorem dX6_digestFarms_3 : decode cX6_digestFarms 3 = .ok (.istore 5, 2) := by decide +kernel
theorem dX6_digestFarms_5 : decode cX6_digestFarms 5 = .ok (.iload 5, 2) := by decide +kernel
theorem dX6_digestFarms_7 : decode cX6_digestFarms 7 = .ok (.aload_n 0, 1) := by decide +kernel
theorem dX6_digestFarms_8 : decode cX6_digestFarms 8 = .ok (.getfield 48, 3) := by decide +kernel
theorem dX6_digestFarms_11 : decode cX6_digestFarms 11 = .ok (.if_icmp .ge 40, 3) := by decide +kernel
theorem dX6_digestFarms_14 : decode cX6_digestFarms 14 = .ok (.iconst 0, 1) := by decide +kernel
theorem dX6_digestFarms_15 : decode cX6_digestFarms 15 = .ok (.istore 6, 2) := by decide +kernel
theorem dX6_digestFarms_17 : decode cX6_digestFarms 17 = .ok (.iload 6, 2) := by decide +kernel
theorem dX6_digestFarms_19 : decode cX6_digestFarms 19 = .ok (.iconst 4, 1) := by decide +kernel
theorem dX6_digestFarms_20 : decode cX6_digestFarms 20 = .ok (.if_icmp .gt 25, 3) := by decide +kernel
theorem dX6_digestFarms_23 : decode cX6_digestFarms 23 = .ok (.lload_n 3, 1) := by decide +kernel
theorem dX6_digestFarms_24 : decode cX6_digestFarms 24 = .ok (.ldc2_w 364, 3) := by decide +kernel
theorem dX6_digestFarms_27 : decode cX6_digestFarms 27 = .ok (.lmul, 1) := by decide +kernel
theorem dX6_digestFarms_28 : decode cX6_digestFarms 28 = .ok (.aload_n 0, 1) := by decide +kernel
theorem dX6_digestFarms_29 : decode cX6_digestFarms 29 = .ok (.iload 5, 2) := by decide +kernel
theorem dX6_digestFarms_31 : decode cX6_digestFarms 31 = .ok (.iload 6, 2) := by decide +kernel
theorem dX6_digestFarms_33 : decode cX6_digestFarms 33 = .ok (.invokevirtual 388, 3) := by decide +kernel
theorem dX6_digestFarms_36 : decode cX6_digestFarms 36 = .ok (.i2l, 1) := by decide +kernel
theorem dX6_digestFarms_37 : decode cX6_digestFarms 37 = .ok (.ladd, 1) := by decide +kernel
theorem dX6_digestFarms_38 : decode cX6_digestFarms 38 = .ok (.lstore_n 3, 1) := by decide +kernel
theorem dX6_digestFarms_39 : decode cX6_digestFarms 39 = .ok (.iinc 6 1, 3) := by decide +kernel
theorem dX6_digestFarms_42 : decode cX6_digestFarms 42 = .ok (.goto (-25), 3) := by decide +kernel
theorem dX6_digestFarms_45 : decode cX6_digestFarms 45 = .ok (.iinc 5 1, 3) := by decide +kernel
theorem dX6_digestFarms_48 : decode cX6_digestFarms 48 = .ok (.goto (-43), 3) := by decide +kernel
theorem dX6_digestFarms_51 : decode cX6_digestFarms 51 = .ok (.lload_n 3, 1) := by decide +kernel
theorem dX6_digestFarms_52 : decode cX6_digestFarms 52 = .ok (.lreturn, 1) := by decide +kernel
theorem dX6_digestBaskets_0 : decode cX6_digestBaskets 0 = .ok (.lload_n 1, 1) := by decide +kernel
theorem dX6_digestBaskets_1 : decode cX6_digestBaskets 1 = .ok (.lstore_n 3, 1) := by decide +kernel
theorem dX6_digestBaskets_2 : decode cX6_digestBaskets 2 = .ok (.iconst 0, 1) := by decide +kernel
theorem dX6_digestBaskets_3 : decode cX6_digestBaskets 3 = .ok (.istore 5, 2) := by decide +kernel
theorem dX6_digestBaskets_5 : decode cX6_digestBaskets 5 = .ok (.iload 5, 2) := by decide +kernel
theorem dX6_digestBaskets_7 : decode cX6_digestBaskets 7 = .ok (.aload_n 0, 1) := by decide +kernel
theorem dX6_digestBaskets_8 : decode cX6_digestBaskets 8 = .ok (.getfield 52, 3) := by decide +kernel
theorem dX6_digestBaskets_11 : decode cX6_digestBaskets 11 = .ok (.if_icmp .ge 40, 3) := by decide +kernel
theorem dX6_digestBaskets_14 : decode cX6_digestBaskets 14 = .ok (.iconst 0, 1) := by decide +kernel
theorem dX6_digestBaskets_15 : decode cX6_digestBaskets 15 = .ok (.istore 6, 2) := by decide +kernel
theorem dX6_digestBaskets_17 : decode cX6_digestBaskets 17 = .ok (.iload 6, 2) := by decide +kernel
theorem dX6_digestBaskets_19 : decode cX6_digestBaskets 19 = .ok (.iconst 5, 1) := by decide +kernel
theorem dX6_digestBaskets_20 : decode cX6_digestBaskets 20 = .ok (.if_icmp .gt 25, 3) := by decide +kernel
theorem dX6_digestBaskets_23 : decode cX6_digestBaskets 23 = .ok (.lload_n 3, 1) := by decide +kernel
theorem dX6_digestBaskets_24 : decode cX6_digestBaskets 24 = .ok (.ldc2_w 364, 3) := by decide +kernel
theorem dX6_digestBaskets_27 : decode cX6_digestBaskets 27 = .ok (.lmul, 1) := by decide +kernel
theorem dX6_digestBaskets_28 : decode cX6_digestBaskets 28 = .ok (.aload_n 0, 1) := by decide +kernel
theorem dX6_digestBaskets_29 : decode cX6_digestBaskets 29 = .ok (.iload 5, 2) := by decide +kernel
theorem dX6_digestBaskets_31 : decode cX6_digestBaskets 31 = .ok (.iload 6, 2) := by decide +kernel
theorem dX6_digestBaskets_33 : decode cX6_digestBaskets 33 = .ok (.invokevirtual 391, 3) := by decide +kernel
theorem dX6_digestBaskets_36 : decode cX6_digestBaskets 36 = .ok (.i2l, 1) := by decide +kernel
theorem dX6_digestBaskets_37 : decode cX6_digestBaskets 37 = .ok (.ladd, 1) := by decide +kernel
theorem dX6_digestBaskets_38 : decode cX6_digestBaskets 38 = .ok (.lstore_n 3, 1) := by decide +kernel
theorem dX6_digestBaskets_39 : decode cX6_digestBaskets 39 = .ok (.iinc 6 1, 3) := by decide +kernel
theorem dX6_digestBaskets_42 : decode cX6_digestBaskets 42 = .ok (.goto (-25), 3) := by decide +kernel
theorem dX6_digestBaskets_45 : decode cX6_digestBaskets 45 = .ok (.iinc 5 1, 3) := by decide +kernel
theorem dX6_digestBaskets_48 : decode cX6_digestBaskets 48 = .ok (.goto (-43), 3) := by decide +kernel
theorem dX6_digestBaskets_51 : decode cX6_digestBaskets 51 = .ok (.lload_n 3, 1) := by decide +kernel
theorem dX6_digestBaskets_52 : decode cX6_digestBaskets 52 = .ok (.lreturn, 1) := by decide +kernel
theorem dX6_digestTanks_0 : decode cX6_digestTanks 0 = .ok (.lload_n 1, 1) := by decide +kernel
theorem dX6_digestTanks_1 : decode cX6_digestTanks 1 = .ok (.lstore_n 3, 1) := by decide +kernel
theorem dX6_digestTanks_2 : decode cX6_digestTanks 2 = .ok (.iconst 0, 1) := by decide +kernel
theorem dX6_digestTanks_3 : decode cX6_digestTanks 3 = .ok (.istore 5, 2) := by decide +kernel
theorem dX6_digestTanks_5 : decode cX6_digestTanks 5 = .ok (.iload 5, 2) := by decide +kernel
theorem dX6_digestTanks_7 : decode cX6_digestTanks 7 = .ok (.iconst 3, 1) := by decide +kernel
theorem dX6_digestTanks_8 : decode cX6_digestTanks 8 = .ok (.if_icmp .ge 56, 3) := by decide +kernel
theorem dX6_digestTanks_11 : decode cX6_digestTanks 11 = .ok (.iconst 0, 1) := by decide +kernel
theorem dX6_digestTanks_12 : decode cX6_digestTanks 12 = .ok (.istore 6, 2) := by decide +kernel
theorem dX6_digestTanks_14 : decode cX6_digestTanks 14 = .ok (.iload 6, 2) := by decide +kernel
theorem dX6_digestTanks_16 : decode cX6_digestTanks 16 = .ok (.iconst 4, 1) := by decide +kernel
theorem dX6_digestTanks_17 : decode cX6_digestTanks 17 = .ok (.if_icmp .gt 25, 3) := by decide +kernel
theorem dX6_digestTanks_20 : decode cX6_digestTanks 20 = .ok (.lload_n 3, 1) := by decide +kernel
theorem dX6_digestTanks_21 : decode cX6_digestTanks 21 = .ok (.ldc2_w 364, 3) := by decide +kernel
theorem dX6_digestTanks_24 : decode cX6_digestTanks 24 = .ok (.lmul, 1) := by decide +kernel
theorem dX6_digestTanks_25 : decode cX6_digestTanks 25 = .ok (.aload_n 0, 1) := by decide +kernel
theorem dX6_digestTanks_26 : decode cX6_digestTanks 26 = .ok (.iload 5, 2) := by decide +kernel
theorem dX6_digestTanks_28 : decode cX6_digestTanks 28 = .ok (.iload 6, 2) := by decide +kernel
theorem dX6_digestTanks_30 : decode cX6_digestTanks 30 = .ok (.invokevirtual 394, 3) := by decide +kernel
theorem dX6_digestTanks_33 : decode cX6_digestTanks 33 = .ok (.i2l, 1) := by decide +kernel
theorem dX6_digestTanks_34 : decode cX6_digestTanks 34 = .ok (.ladd, 1) := by decide +kernel
theorem dX6_digestTanks_35 : decode cX6_digestTanks 35 = .ok (.lstore_n 3, 1) := by decide +kernel
theorem dX6_digestTanks_36 : decode cX6_digestTanks 36 = .ok (.iinc 6 1, 3) := by decide +kernel
theorem dX6_digestTanks_39 : decode cX6_digestTanks 39 = .ok (.goto (-25), 3) := by decide +kernel
theorem dX6_digestTanks_42 : decode cX6_digestTanks 42 = .ok (.lload_n 3, 1) := by decide +kernel
theorem dX6_digestTanks_43 : decode cX6_digestTanks 43 = .ok (.ldc2_w 364, 3) := by decide +kernel
theorem dX6_digestTanks_46 : decode cX6_digestTanks 46 = .ok (.lmul, 1) := by decide +kernel
theorem dX6_digestTanks_47 : decode cX6_digestTanks 47 = .ok (.aload_n 0, 1) := by decide +kernel
theorem dX6_digestTanks_48 : decode cX6_digestTanks 48 = .ok (.iload 5, 2) := by decide +kernel
theorem dX6_digestTanks_50 : decode cX6_digestTanks 50 = .ok (.bipush 20, 2) := by decide +kernel
theorem dX6_digestTanks_52 : decode cX6_digestTanks 52 = .ok (.invokevirtual 397, 3) := by decide +kernel
theorem dX6_digestTanks_55 : decode cX6_digestTanks 55 = .ok (.i2l, 1) := by decide +kernel
theorem dX6_digestTanks_56 : decode cX6_digestTanks 56 = .ok (.ladd, 1) := by decide +kernel
theorem dX6_digestTanks_57 : decode cX6_digestTanks 57 = .ok (.lstore_n 3, 1) := by decide +kernel
theorem dX6_digestTanks_58 : decode cX6_digestTanks 58 = .ok (.iinc 5 1, 3) := by decide +kernel
theorem dX6_digestTanks_61 : decode cX6_digestTanks 61 = .ok (.goto (-56), 3) := by decide +kernel
theorem dX6_digestTanks_64 : decode cX6_digestTanks 64 = .ok (.lload_n 3, 1) := by decide +kernel
theorem dX6_digestTanks_65 : decode cX6_digestTanks 65 = .ok (.lreturn, 1) := by decide +kernel
theorem dX6_digestBeds_0 : decode cX6_digestBeds 0 = .ok (.lload_n 1, 1) := by decide +kernel
theorem dX6_digestBeds_1 : decode cX6_digestBeds 1 = .ok (.lstore_n 3, 1) := by decide +kernel
theorem dX6_digestBeds_2 : decode cX6_digestBeds 2 = .ok (.iconst 0, 1) := by decide +kernel
theorem dX6_digestBeds_3 : decode cX6_digestBeds 3 = .ok (.istore 5, 2) := by decide +kernel
theorem dX6_digestBeds_5 : decode cX6_digestBeds 5 = .ok (.iload 5, 2) := by decide +kernel
theorem dX6_digestBeds_7 : decode cX6_digestBeds 7 = .ok (.aload_n 0, 1) := by decide +kernel
theorem dX6_digestBeds_8 : decode cX6_digestBeds 8 = .ok (.getfield 55, 3) := by decide +kernel
theorem dX6_digestBeds_11 : decode cX6_digestBeds 11 = .ok (.if_icmp .ge 57, 3) := by decide +kernel
theorem dX6_digestBeds_14 : decode cX6_digestBeds 14 = .ok (.iconst 0, 1) := by decide +kernel
theorem dX6_digestBeds_15 : decode cX6_digestBeds 15 = .ok (.istore 6, 2) := by decide +kernel
theorem dX6_digestBeds_17 : decode cX6_digestBeds 17 = .ok (.iload 6, 2) := by decide +kernel
theorem dX6_digestBeds_19 : decode cX6_digestBeds 19 = .ok (.bipush 7, 2) := by decide +kernel
theorem dX6_digestBeds_21 : decode cX6_digestBeds 21 = .ok (.if_icmp .gt 25, 3) := by decide +kernel
theorem dX6_digestBeds_24 : decode cX6_digestBeds 24 = .ok (.lload_n 3, 1) := by decide +kernel
theorem dX6_digestBeds_25 : decode cX6_digestBeds 25 = .ok (.ldc2_w 364, 3) := by decide +kernel
theorem dX6_digestBeds_28 : decode cX6_digestBeds 28 = .ok (.lmul, 1) := by decide +kernel
theorem dX6_digestBeds_29 : decode cX6_digestBeds 29 = .ok (.aload_n 0, 1) := by decide +kernel
theorem dX6_digestBeds_30 : decode cX6_digestBeds 30 = .ok (.iload 5, 2) := by decide +kernel
theorem dX6_digestBeds_32 : decode cX6_digestBeds 32 = .ok (.iload 6, 2) := by decide +kernel
theorem dX6_digestBeds_34 : decode cX6_digestBeds 34 = .ok (.invokevirtual 400, 3) := by decide +kernel
theorem dX6_digestBeds_37 : decode cX6_digestBeds 37 = .ok (.i2l, 1) := by decide +kernel
theorem dX6_digestBeds_38 : decode cX6_digestBeds 38 = .ok (.ladd, 1) := by decide +kernel
theorem dX6_digestBeds_39 : decode cX6_digestBeds 39 = .ok (.lstore_n 3, 1) := by decide +kernel
theorem dX6_digestBeds_40 : decode cX6_digestBeds 40 = .ok (.iinc 6 1, 3) := by decide +kernel
theorem dX6_digestBeds_43 : decode cX6_digestBeds 43 = .ok (.goto (-26), 3) := by decide +kernel
theorem dX6_digestBeds_46 : decode cX6_digestBeds 46 = .ok (.lload_n 3, 1) := by decide +kernel
theorem dX6_digestBeds_47 : decode cX6_digestBeds 47 = .ok (.ldc2_w 364, 3) := by decide +kernel
theorem dX6_digestBeds_50 : decode cX6_digestBeds 50 = .ok (.lmul, 1) := by decide +kernel
theorem dX6_digestBeds_51 : decode cX6_digestBeds 51 = .ok (.aload_n 0, 1) := by decide +kernel
theorem dX6_digestBeds_52 : decode cX6_digestBeds 52 = .ok (.iload 5, 2) := by decide +kernel
theorem dX6_digestBeds_54 : decode cX6_digestBeds 54 = .ok (.bipush 25, 2) := by decide +kernel
theorem dX6_digestBeds_56 : decode cX6_digestBeds 56 = .ok (.invokevirtual 403, 3) := by decide +kernel
theorem dX6_digestBeds_59 : decode cX6_digestBeds 59 = .ok (.i2l, 1) := by decide +kernel
theorem dX6_digestBeds_60 : decode cX6_digestBeds 60 = .ok (.ladd, 1) := by decide +kernel
theorem dX6_digestBeds_61 : decode cX6_digestBeds 61 = .ok (.lstore_n 3, 1) := by decide +kernel
theorem dX6_digestBeds_62 : decode cX6_digestBeds 62 = .ok (.iinc 5 1, 3) := by decide +kernel
theorem dX6_digestBeds_65 : decode cX6_digestBeds 65 = .ok (.goto (-60), 3) := by decide +kernel
theorem dX6_digestBeds_68 : decode cX6_digestBeds 68 = .ok (.lload_n 3, 1) := by decide +kernel
theorem dX6_digestBeds_69 : decode cX6_digestBeds 69 = .ok (.lreturn, 1) := by decide +kernel
theorem dX6_digestLots_0 : decode cX6_digestLots 0 = .ok (.lload_n 1, 1) := by decide +kernel
theorem dX6_digestLots_1 : decode cX6_digestLots 1 = .ok (.lstore_n 3, 1) := by decide +kernel
theorem dX6_digestLots_2 : decode cX6_digestLots 2 = .ok (.iconst 0, 1) := by decide +kernel
theorem dX6_digestLots_3 : decode cX6_digestLots 3 = .ok (.istore 5, 2) := by decide +kernel
theorem dX6_digestLots_5 : decode cX6_digestLots 5 = .ok (.iload 5, 2) := by decide +kernel
theorem dX6_digestLots_7 : decode cX6_digestLots 7 = .ok (.aload_n 0, 1) := by decide +kernel
theorem dX6_digestLots_8 : decode cX6_digestLots 8 = .ok (.getfield 58, 3) := by decide +kernel
theorem dX6_digestLots_11 : decode cX6_digestLots 11 = .ok (.if_icmp .ge 75, 3) := by decide +kernel
theorem dX6_digestLots_14 : decode cX6_digestLots 14 = .ok (.iconst 0, 1) := by decide +kernel
theorem dX6_digestLots_15 : decode cX6_digestLots 15 = .ok (.istore 6, 2) := by decide +kernel
theorem dX6_digestLots_17 : decode cX6_digestLots 17 = .ok (.iload 6, 2) := by decide +kernel
theorem dX6_digestLots_19 : decode cX6_digestLots 19 = .ok (.bipush 11, 2) := by decide +kernel
theorem dX6_digestLots_21 : decode cX6_digestLots 21 = .ok (.if_icmp .gt 25, 3) := by decide +kernel
theorem dX6_digestLots_24 : decode cX6_digestLots 24 = .ok (.lload_n 3, 1) := by decide +kernel
theorem dX6_digestLots_25 : decode cX6_digestLots 25 = .ok (.ldc2_w 364, 3) := by decide +kernel
theorem dX6_digestLots_28 : decode cX6_digestLots 28 = .ok (.lmul, 1) := by decide +kernel
theorem dX6_digestLots_29 : decode cX6_digestLots 29 = .ok (.aload_n 0, 1) := by decide +kernel
theorem dX6_digestLots_30 : decode cX6_digestLots 30 = .ok (.iload 5, 2) := by decide +kernel
theorem dX6_digestLots_32 : decode cX6_digestLots 32 = .ok (.iload 6, 2) := by decide +kernel
theorem dX6_digestLots_34 : decode cX6_digestLots 34 = .ok (.invokevirtual 406, 3) := by decide +kernel
theorem dX6_digestLots_37 : decode cX6_digestLots 37 = .ok (.i2l, 1) := by decide +kernel
theorem dX6_digestLots_38 : decode cX6_digestLots 38 = .ok (.ladd, 1) := by decide +kernel
theorem dX6_digestLots_39 : decode cX6_digestLots 39 = .ok (.lstore_n 3, 1) := by decide +kernel
theorem dX6_digestLots_40 : decode cX6_digestLots 40 = .ok (.iinc 6 1, 3) := by decide +kernel
theorem dX6_digestLots_43 : decode cX6_digestLots 43 = .ok (.goto (-26), 3) := by decide +kernel
theorem dX6_digestLots_46 : decode cX6_digestLots 46 = .ok (.iconst 0, 1) := by decide +kernel
theorem dX6_digestLots_47 : decode cX6_digestLots 47 = .ok (.istore 6, 2) := by decide +kernel
theorem dX6_digestLots_49 : decode cX6_digestLots 49 = .ok (.iload 6, 2) := by decide +kernel
theorem dX6_digestLots_51 : decode cX6_digestLots 51 = .ok (.aload_n 0, 1) := by decide +kernel
theorem dX6_digestLots_52 : decode cX6_digestLots 52 = .ok (.getfield 48, 3) := by decide +kernel
theorem dX6_digestLots_55 : decode cX6_digestLots 55 = .ok (.if_icmp .ge 25, 3) := by decide +kernel
theorem dX6_digestLots_58 : decode cX6_digestLots 58 = .ok (.lload_n 3, 1) := by decide +kernel
theorem dX6_digestLots_59 : decode cX6_digestLots 59 = .ok (.ldc2_w 364, 3) := by decide +kernel
theorem dX6_digestLots_62 : decode cX6_digestLots 62 = .ok (.lmul, 1) := by decide +kernel
theorem dX6_digestLots_63 : decode cX6_digestLots 63 = .ok (.aload_n 0, 1) := by decide +kernel
theorem dX6_digestLots_64 : decode cX6_digestLots 64 = .ok (.iload 5, 2) := by decide +kernel
theorem dX6_digestLots_66 : decode cX6_digestLots 66 = .ok (.iload 6, 2) := by decide +kernel
theorem dX6_digestLots_68 : decode cX6_digestLots 68 = .ok (.invokevirtual 409, 3) := by decide +kernel
theorem dX6_digestLots_71 : decode cX6_digestLots 71 = .ok (.i2l, 1) := by decide +kernel
theorem dX6_digestLots_72 : decode cX6_digestLots 72 = .ok (.ladd, 1) := by decide +kernel
theorem dX6_digestLots_73 : decode cX6_digestLots 73 = .ok (.lstore_n 3, 1) := by decide +kernel
theorem dX6_digestLots_74 : decode cX6_digestLots 74 = .ok (.iinc 6 1, 3) := by decide +kernel
theorem dX6_digestLots_77 : decode cX6_digestLots 77 = .ok (.goto (-28), 3) := by decide +kernel
theorem dX6_digestLots_80 : decode cX6_digestLots 80 = .ok (.iinc 5 1, 3) := by decide +kernel
theorem dX6_digestLots_83 : decode cX6_digestLots 83 = .ok (.goto (-78), 3) := by decide +kernel
theorem dX6_digestLots_86 : decode cX6_digestLots 86 = .ok (.lload_n 3, 1) := by decide +kernel
theorem dX6_digestLots_87 : decode cX6_digestLots 87 = .ok (.lreturn, 1) := by decide +kernel
theorem dX6_needFarm_0 : decode cX6_needFarm 0 = .ok (.iload_n 1, 1) := by decide +kernel
theorem dX6_needFarm_1 : decode cX6_needFarm 1 = .ok (.ifCond .lt 11, 3) := by decide +kernel
theorem dX6_needFarm_4 : decode cX6_needFarm 4 = .ok (.iload_n 1, 1) := by decide +kernel
theorem dX6_needFarm_5 : decode cX6_needFarm 5 = .ok (.aload_n 0, 1) := by decide +kernel
theorem dX6_needFarm_6 : decode cX6_needFarm 6 = .ok (.getfield 48, 3) := by decide +kernel
theorem dX6_needFarm_9 : decode cX6_needFarm 9 = .ok (.if_icmp .lt 14, 3) := by decide +kernel
theorem dX6_needFarm_12 : decode cX6_needFarm 12 = .ok (.new 412, 3) := by decide +kernel
theorem dX6_needFarm_15 : decode cX6_needFarm 15 = .ok (.dup, 1) := by decide +kernel
theorem dX6_needFarm_16 : decode cX6_needFarm 16 = .ok (.ldc_w 414, 3) := by decide +kernel
theorem dX6_needFarm_19 : decode cX6_needFarm 19 = .ok (.invokespecial 416, 3) := by decide +kernel
theorem dX6_needFarm_22 : decode cX6_needFarm 22 = .ok (.athrow, 1) := by decide +kernel
theorem dX6_needFarm_23 : decode cX6_needFarm 23 = .ok (.return_, 1) := by decide +kernel
theorem dX6_needTaster_0 : decode cX6_needTaster 0 = .ok (.iload_n 0, 1) := by decide +kernel
theorem dX6_needTaster_1 : decode cX6_needTaster 1 = .ok (.ifCond .lt 8, 3) := by decide +kernel
theorem dX6_needTaster_4 : decode cX6_needTaster 4 = .ok (.iload_n 0, 1) := by decide +kernel
theorem dX6_needTaster_5 : decode cX6_needTaster 5 = .ok (.iconst 3, 1) := by decide +kernel
theorem dX6_needTaster_6 : decode cX6_needTaster 6 = .ok (.if_icmp .lt 14, 3) := by decide +kernel
theorem dX6_needTaster_9 : decode cX6_needTaster 9 = .ok (.new 412, 3) := by decide +kernel
theorem dX6_needTaster_12 : decode cX6_needTaster 12 = .ok (.dup, 1) := by decide +kernel
theorem dX6_needTaster_13 : decode cX6_needTaster 13 = .ok (.ldc_w 417, 3) := by decide +kernel
theorem dX6_needTaster_16 : decode cX6_needTaster 16 = .ok (.invokespecial 416, 3) := by decide +kernel
theorem dX6_needTaster_19 : decode cX6_needTaster 19 = .ok (.athrow, 1) := by decide +kernel
theorem dX6_needTaster_20 : decode cX6_needTaster 20 = .ok (.return_, 1) := by decide +kernel
theorem dX6_needWarmth_0 : decode cX6_needWarmth 0 = .ok (.iload_n 0, 1) := by decide +kernel
theorem dX6_needWarmth_1 : decode cX6_needWarmth 1 = .ok (.ifCond .lt 9, 3) := by decide +kernel
theorem dX6_needWarmth_4 : decode cX6_needWarmth 4 = .ok (.iload_n 0, 1) := by decide +kernel
theorem dX6_needWarmth_5 : decode cX6_needWarmth 5 = .ok (.bipush 40, 2) := by decide +kernel
theorem dX6_needWarmth_7 : decode cX6_needWarmth 7 = .ok (.if_icmp .le 14, 3) := by decide +kernel
theorem dX6_needWarmth_10 : decode cX6_needWarmth 10 = .ok (.new 86, 3) := by decide +kernel
theorem dX6_needWarmth_13 : decode cX6_needWarmth 13 = .ok (.dup, 1) := by decide +kernel
theorem dX6_needWarmth_14 : decode cX6_needWarmth 14 = .ok (.ldc_w 419, 3) := by decide +kernel
theorem dX6_needWarmth_17 : decode cX6_needWarmth 17 = .ok (.invokespecial 90, 3) := by decide +kernel
theorem dX6_needWarmth_20 : decode cX6_needWarmth 20 = .ok (.athrow, 1) := by decide +kernel
theorem dX6_needWarmth_21 : decode cX6_needWarmth 21 = .ok (.return_, 1) := by decide +kernel
theorem dX6_needSale_0 : decode cX6_needSale 0 = .ok (.iload_n 1, 1) := by decide +kernel
theorem dX6_needSale_1 : decode cX6_needSale 1 = .ok (.iconst 1, 1) := by decide +kernel
theorem dX6_needSale_2 : decode cX6_needSale 2 = .ok (.if_icmp .lt 10, 3) := by decide +kernel
theorem dX6_needSale_5 : decode cX6_needSale 5 = .ok (.iload_n 1, 1) := by decide +kernel
theorem dX6_needSale_6 : decode cX6_needSale 6 = .ok (.sipush 200, 3) := by decide +kernel
theorem dX6_needSale_9 : decode cX6_needSale 9 = .ok (.if_icmp .le 14, 3) := by decide +kernel
theorem dX6_needSale_12 : decode cX6_needSale 12 = .ok (.new 86, 3) := by decide +kernel
theorem dX6_needSale_15 : decode cX6_needSale 15 = .ok (.dup, 1) := by decide +kernel
theorem dX6_needSale_16 : decode cX6_needSale 16 = .ok (.ldc_w 421, 3) := by decide +kernel
theorem dX6_needSale_19 : decode cX6_needSale 19 = .ok (.invokespecial 90, 3) := by decide +kernel
theorem dX6_needSale_22 : decode cX6_needSale 22 = .ok (.athrow, 1) := by decide +kernel
theorem dX6_needSale_23 : decode cX6_needSale 23 = .ok (.aload_n 0, 1) := by decide +kernel
theorem dX6_needSale_24 : decode cX6_needSale 24 = .ok (.getfield 231, 3) := by decide +kernel
theorem dX6_needSale_27 : decode cX6_needSale 27 = .ok (.ifCond .eq 11, 3) := by decide +kernel
theorem dX6_needSale_30 : decode cX6_needSale 30 = .ok (.aload_n 0, 1) := by decide +kernel
theorem dX6_needSale_31 : decode cX6_needSale 31 = .ok (.invokevirtual 314, 3) := by decide +kernel
theorem dX6_needSale_34 : decode cX6_needSale 34 = .ok (.iconst (-1), 1) := by decide +kernel
theorem dX6_needSale_35 : decode cX6_needSale 35 = .ok (.if_icmp .ne 14, 3) := by decide +kernel
theorem dX6_needSale_38 : decode cX6_needSale 38 = .ok (.new 93, 3) := by decide +kernel
theorem dX6_needSale_41 : decode cX6_needSale 41 = .ok (.dup, 1) := by decide +kernel
theorem dX6_needSale_42 : decode cX6_needSale 42 = .ok (.ldc_w 423, 3) := by decide +kernel
theorem dX6_needSale_45 : decode cX6_needSale 45 = .ok (.invokespecial 97, 3) := by decide +kernel
theorem dX6_needSale_48 : decode cX6_needSale 48 = .ok (.athrow, 1) := by decide +kernel
theorem dX6_needSale_49 : decode cX6_needSale 49 = .ok (.return_, 1) := by decide +kernel
theorem dX6_farmAt_0 : decode cX6_farmAt 0 = .ok (.aload_n 0, 1) := by decide +kernel
theorem dX6_farmAt_1 : decode cX6_farmAt 1 = .ok (.iload_n 1, 1) := by decide +kernel
theorem dX6_farmAt_2 : decode cX6_farmAt 2 = .ok (.invokevirtual 322, 3) := by decide +kernel
theorem dX6_farmAt_5 : decode cX6_farmAt 5 = .ok (.aload_n 0, 1) := by decide +kernel
theorem dX6_farmAt_6 : decode cX6_farmAt 6 = .ok (.getfield 11, 3) := by decide +kernel
theorem dX6_farmAt_9 : decode cX6_farmAt 9 = .ok (.iload_n 1, 1) := by decide +kernel
theorem dX6_farmAt_10 : decode cX6_farmAt 10 = .ok (.aaload, 1) := by decide +kernel
theorem dX6_farmAt_11 : decode cX6_farmAt 11 = .ok (.areturn, 1) := by decide +kernel
theorem dX6_basketAt_0 : decode cX6_basketAt 0 = .ok (.iload_n 1, 1) := by decide +kernel
theorem dX6_basketAt_1 : decode cX6_basketAt 1 = .ok (.ifCond .lt 11, 3) := by decide +kernel
theorem dX6_basketAt_4 : decode cX6_basketAt 4 = .ok (.iload_n 1, 1) := by decide +kernel
theorem dX6_basketAt_5 : decode cX6_basketAt 5 = .ok (.aload_n 0, 1) := by decide +kernel
theorem dX6_basketAt_6 : decode cX6_basketAt 6 = .ok (.getfield 52, 3) := by decide +kernel
theorem dX6_basketAt_9 : decode cX6_basketAt 9 = .ok (.if_icmp .lt 14, 3) := by decide +kernel
theorem dX6_basketAt_12 : decode cX6_basketAt 12 = .ok (.new 412, 3) := by decide +kernel
theorem dX6_basketAt_15 : decode cX6_basketAt 15 = .ok (.dup, 1) := by decide +kernel
theorem dX6_basketAt_16 : decode cX6_basketAt 16 = .ok (.ldc_w 425, 3) := by decide +kernel
theorem dX6_basketAt_19 : decode cX6_basketAt 19 = .ok (.invokespecial 416, 3) := by decide +kernel
theorem dX6_basketAt_22 : decode cX6_basketAt 22 = .ok (.athrow, 1) := by decide +kernel
theorem dX6_basketAt_23 : decode cX6_basketAt 23 = .ok (.aload_n 0, 1) := by decide +kernel
theorem dX6_basketAt_24 : decode cX6_basketAt 24 = .ok (.getfield 17, 3) := by decide +kernel
theorem dX6_basketAt_27 : decode cX6_basketAt 27 = .ok (.iload_n 1, 1) := by decide +kernel
theorem dX6_basketAt_28 : decode cX6_basketAt 28 = .ok (.aaload, 1) := by decide +kernel
theorem dX6_basketAt_29 : decode cX6_basketAt 29 = .ok (.areturn, 1) := by decide +kernel
theorem dX6_tankAt_0 : decode cX6_tankAt 0 = .ok (.iload_n 1, 1) := by decide +kernel
theorem dX6_tankAt_1 : decode cX6_tankAt 1 = .ok (.ifCond .lt 8, 3) := by decide +kernel
theorem dX6_tankAt_4 : decode cX6_tankAt 4 = .ok (.iload_n 1, 1) := by decide +kernel
theorem dX6_tankAt_5 : decode cX6_tankAt 5 = .ok (.iconst 3, 1) := by decide +kernel
theorem dX6_tankAt_6 : decode cX6_tankAt 6 = .ok (.if_icmp .lt 14, 3) := by decide +kernel
theorem dX6_tankAt_9 : decode cX6_tankAt 9 = .ok (.new 412, 3) := by decide +kernel
theorem dX6_tankAt_12 : decode cX6_tankAt 12 = .ok (.dup, 1) := by decide +kernel
theorem dX6_tankAt_13 : decode cX6_tankAt 13 = .ok (.ldc_w 427, 3) := by decide +kernel
theorem dX6_tankAt_16 : decode cX6_tankAt 16 = .ok (.invokespecial 416, 3) := by decide +kernel
theorem dX6_tankAt_19 : decode cX6_tankAt 19 = .ok (.athrow, 1) := by decide +kernel
theorem dX6_tankAt_20 : decode cX6_tankAt 20 = .ok (.aload_n 0, 1) := by decide +kernel
theorem dX6_tankAt_21 : decode cX6_tankAt 21 = .ok (.getfield 23, 3) := by decide +kernel
theorem dX6_tankAt_24 : decode cX6_tankAt 24 = .ok (.iload_n 1, 1) := by decide +kernel
theorem dX6_tankAt_25 : decode cX6_tankAt 25 = .ok (.aaload, 1) := by decide +kernel
theorem dX6_tankAt_26 : decode cX6_tankAt 26 = .ok (.areturn, 1) := by decide +kernel
theorem dX6_bedAt_0 : decode cX6_bedAt 0 = .ok (.iload_n 1, 1) := by decide +kernel
theorem dX6_bedAt_1 : decode cX6_bedAt 1 = .ok (.ifCond .lt 11, 3) := by decide +kernel
theorem dX6_bedAt_4 : decode cX6_bedAt 4 = .ok (.iload_n 1, 1) := by decide +kernel
theorem dX6_bedAt_5 : decode cX6_bedAt 5 = .ok (.aload_n 0, 1) := by decide +kernel
theorem dX6_bedAt_6 : decode cX6_bedAt 6 = .ok (.getfield 55, 3) := by decide +kernel
theorem dX6_bedAt_9 : decode cX6_bedAt 9 = .ok (.if_icmp .lt 14, 3) := by decide +kernel
theorem dX6_bedAt_12 : decode cX6_bedAt 12 = .ok (.new 412, 3) := by decide +kernel
theorem dX6_bedAt_15 : decode cX6_bedAt 15 = .ok (.dup, 1) := by decide +kernel
theorem dX6_bedAt_16 : decode cX6_bedAt 16 = .ok (.ldc_w 429, 3) := by decide +kernel
theorem dX6_bedAt_19 : decode cX6_bedAt 19 = .ok (.invokespecial 416, 3) := by decide +kernel
theorem dX6_bedAt_22 : decode cX6_bedAt 22 = .ok (.athrow, 1) := by decide +kernel
theorem dX6_bedAt_23 : decode cX6_bedAt 23 = .ok (.aload_n 0, 1) := by decide +kernel
theorem dX6_bedAt_24 : decode cX6_bedAt 24 = .ok (.getfield 29, 3) := by decide +kernel
theorem dX6_bedAt_27 : decode cX6_bedAt 27 = .ok (.iload_n 1, 1) := by decide +kernel
theorem dX6_bedAt_28 : decode cX6_bedAt 28 = .ok (.aaload, 1) := by decide +kernel
theorem dX6_bedAt_29 : decode cX6_bedAt 29 = .ok (.areturn, 1) := by decide +kernel
theorem dX6_lotAt_0 : decode cX6_lotAt 0 = .ok (.iload_n 1, 1) := by decide +kernel
theorem dX6_lotAt_1 : decode cX6_lotAt 1 = .ok (.ifCond .lt 11, 3) := by decide +kernel
theorem dX6_lotAt_4 : decode cX6_lotAt 4 = .ok (.iload_n 1, 1) := by decide +kernel
theorem dX6_lotAt_5 : decode cX6_lotAt 5 = .ok (.aload_n 0, 1) := by decide +kernel
theorem dX6_lotAt_6 : decode cX6_lotAt 6 = .ok (.getfield 58, 3) := by decide +kernel
theorem dX6_lotAt_9 : decode cX6_lotAt 9 = .ok (.if_icmp .lt 14, 3) := by decide +kernel
theorem dX6_lotAt_12 : decode cX6_lotAt 12 = .ok (.new 412, 3) := by decide +kernel
theorem dX6_lotAt_15 : decode cX6_lotAt 15 = .ok (.dup, 1) := by decide +kernel
theorem dX6_lotAt_16 : decode cX6_lotAt 16 = .ok (.ldc_w 431, 3) := by decide +kernel
theorem dX6_lotAt_19 : decode cX6_lotAt 19 = .ok (.invokespecial 416, 3) := by decide +kernel
theorem dX6_lotAt_22 : decode cX6_lotAt 22 = .ok (.athrow, 1) := by decide +kernel
theorem dX6_lotAt_23 : decode cX6_lotAt 23 = .ok (.aload_n 0, 1) := by decide +kernel
theorem dX6_lotAt_24 : decode cX6_lotAt 24 = .ok (.getfield 35, 3) := by decide +kernel
theorem dX6_lotAt_27 : decode cX6_lotAt 27 = .ok (.iload_n 1, 1) := by decide +kernel
theorem dX6_lotAt_28 : decode cX6_lotAt 28 = .ok (.aaload, 1) := by decide +kernel
theorem dX6_lotAt_29 : decode cX6_lotAt 29 = .ok (.areturn, 1) := by decide +kernel
theorem dX6_passOneHour_0 : decode cX6_passOneHour 0 = .ok (.aload_n 0, 1) := by decide +kernel
theorem dX6_passOneHour_1 : decode cX6_passOneHour 1 = .ok (.dup, 1) := by decide +kernel
theorem dX6_passOneHour_2 : decode cX6_passOneHour 2 = .ok (.getfield 61, 3) := by decide +kernel
theorem dX6_passOneHour_5 : decode cX6_passOneHour 5 = .ok (.iconst 1, 1) := by decide +kernel
theorem dX6_passOneHour_6 : decode cX6_passOneHour 6 = .ok (.iadd, 1) := by decide +kernel
theorem dX6_passOneHour_7 : decode cX6_passOneHour 7 = .ok (.putfield 61, 3) := by decide +kernel
theorem dX6_passOneHour_10 : decode cX6_passOneHour 10 = .ok (.aload_n 0, 1) := by decide +kernel
theorem dX6_passOneHour_11 : decode cX6_passOneHour 11 = .ok (.invokevirtual 433, 3) := by decide +kernel
theorem dX6_passOneHour_14 : decode cX6_passOneHour 14 = .ok (.istore_n 3, 1) := by decide +kernel
theorem dX6_passOneHour_15 : decode cX6_passOneHour 15 = .ok (.iconst 0, 1) := by decide +kernel
theorem dX6_passOneHour_16 : decode cX6_passOneHour 16 = .ok (.istore 4, 2) := by decide +kernel
theorem dX6_passOneHour_18 : decode cX6_passOneHour 18 = .ok (.iload 4, 2) := by decide +kernel
theorem dX6_passOneHour_20 : decode cX6_passOneHour 20 = .ok (.iconst 3, 1) := by decide +kernel
theorem dX6_passOneHour_21 : decode cX6_passOneHour 21 = .ok (.if_icmp .ge 20, 3) := by decide +kernel
theorem dX6_passOneHour_24 : decode cX6_passOneHour 24 = .ok (.aload_n 0, 1) := by decide +kernel
theorem dX6_passOneHour_25 : decode cX6_passOneHour 25 = .ok (.getfield 23, 3) := by decide +kernel
theorem dX6_passOneHour_28 : decode cX6_passOneHour 28 = .ok (.iload 4, 2) := by decide +kernel
theorem dX6_passOneHour_30 : decode cX6_passOneHour 30 = .ok (.aaload, 1) := by decide +kernel
theorem dX6_passOneHour_31 : decode cX6_passOneHour 31 = .ok (.iload_n 1, 1) := by decide +kernel
theorem dX6_passOneHour_32 : decode cX6_passOneHour 32 = .ok (.invokevirtual 436, 3) := by decide +kernel
theorem dX6_passOneHour_35 : decode cX6_passOneHour 35 = .ok (.iinc 4 1, 3) := by decide +kernel
theorem dX6_passOneHour_38 : decode cX6_passOneHour 38 = .ok (.goto (-20), 3) := by decide +kernel
theorem dX6_passOneHour_41 : decode cX6_passOneHour 41 = .ok (.iconst 0, 1) := by decide +kernel
theorem dX6_passOneHour_42 : decode cX6_passOneHour 42 = .ok (.istore 4, 2) := by decide +kernel
theorem dX6_passOneHour_44 : decode cX6_passOneHour 44 = .ok (.iload 4, 2) := by decide +kernel
theorem dX6_passOneHour_46 : decode cX6_passOneHour 46 = .ok (.aload_n 0, 1) := by decide +kernel
theorem dX6_passOneHour_47 : decode cX6_passOneHour 47 = .ok (.getfield 55, 3) := by decide +kernel
theorem dX6_passOneHour_50 : decode cX6_passOneHour 50 = .ok (.if_icmp .ge 25, 3) := by decide +kernel
theorem dX6_passOneHour_53 : decode cX6_passOneHour 53 = .ok (.aload_n 0, 1) := by decide +kernel
theorem dX6_passOneHour_54 : decode cX6_passOneHour 54 = .ok (.getfield 29, 3) := by decide +kernel
theorem dX6_passOneHour_57 : decode cX6_passOneHour 57 = .ok (.iload 4, 2) := by decide +kernel
theorem dX6_passOneHour_59 : decode cX6_passOneHour 59 = .ok (.aaload, 1) := by decide +kernel
theorem dX6_passOneHour_60 : decode cX6_passOneHour 60 = .ok (.aload_n 0, 1) := by decide +kernel
theorem dX6_passOneHour_61 : decode cX6_passOneHour 61 = .ok (.getfield 61, 3) := by decide +kernel
theorem dX6_passOneHour_64 : decode cX6_passOneHour 64 = .ok (.iload_n 1, 1) := by decide +kernel
theorem dX6_passOneHour_65 : decode cX6_passOneHour 65 = .ok (.iload_n 2, 1) := by decide +kernel
theorem dX6_passOneHour_66 : decode cX6_passOneHour 66 = .ok (.invokevirtual 439, 3) := by decide +kernel
theorem dX6_passOneHour_69 : decode cX6_passOneHour 69 = .ok (.iinc 4 1, 3) := by decide +kernel
theorem dX6_passOneHour_72 : decode cX6_passOneHour 72 = .ok (.goto (-28), 3) := by decide +kernel
theorem dX6_passOneHour_75 : decode cX6_passOneHour 75 = .ok (.aload_n 0, 1) := by decide +kernel
theorem dX6_passOneHour_76 : decode cX6_passOneHour 76 = .ok (.getfield 61, 3) := by decide +kernel
theorem dX6_passOneHour_79 : decode cX6_passOneHour 79 = .ok (.bipush 24, 2) := by decide +kernel
theorem dX6_passOneHour_81 : decode cX6_passOneHour 81 = .ok (.irem, 1) := by decide +kernel
theorem dX6_passOneHour_82 : decode cX6_passOneHour 82 = .ok (.ifCond .ne 7, 3) := by decide +kernel
theorem dX6_passOneHour_85 : decode cX6_passOneHour 85 = .ok (.aload_n 0, 1) := by decide +kernel
theorem dX6_passOneHour_86 : decode cX6_passOneHour 86 = .ok (.invokevirtual 441, 3) := by decide +kernel
theorem dX6_passOneHour_89 : decode cX6_passOneHour 89 = .ok (.iload_n 3, 1) := by decide +kernel
theorem dX6_passOneHour_90 : decode cX6_passOneHour 90 = .ok (.ireturn, 1) := by decide +kernel
theorem dX6_ageBaskets_0 : decode cX6_ageBaskets 0 = .ok (.iconst 0, 1) := by decide +kernel
theorem dX6_ageBaskets_1 : decode cX6_ageBaskets 1 = .ok (.istore_n 1, 1) := by decide +kernel
theorem dX6_ageBaskets_2 : decode cX6_ageBaskets 2 = .ok (.iconst 0, 1) := by decide +kernel
theorem dX6_ageBaskets_3 : decode cX6_ageBaskets 3 = .ok (.istore_n 2, 1) := by decide +kernel
theorem dX6_ageBaskets_4 : decode cX6_ageBaskets 4 = .ok (.iload_n 2, 1) := by decide +kernel
theorem dX6_ageBaskets_5 : decode cX6_ageBaskets 5 = .ok (.aload_n 0, 1) := by decide +kernel
theorem dX6_ageBaskets_6 : decode cX6_ageBaskets 6 = .ok (.getfield 52, 3) := by decide +kernel
theorem dX6_ageBaskets_9 : decode cX6_ageBaskets 9 = .ok (.if_icmp .ge 42, 3) := by decide +kernel
theorem dX6_ageBaskets_12 : decode cX6_ageBaskets 12 = .ok (.aload_n 0, 1) := by decide +kernel
theorem dX6_ageBaskets_13 : decode cX6_ageBaskets 13 = .ok (.getfield 17, 3) := by decide +kernel
theorem dX6_ageBaskets_16 : decode cX6_ageBaskets 16 = .ok (.iload_n 2, 1) := by decide +kernel
theorem dX6_ageBaskets_17 : decode cX6_ageBaskets 17 = .ok (.aaload, 1) := by decide +kernel
theorem dX6_ageBaskets_18 : decode cX6_ageBaskets 18 = .ok (.invokevirtual 444, 3) := by decide +kernel
theorem dX6_ageBaskets_21 : decode cX6_ageBaskets 21 = .ok (.ifCond .eq 24, 3) := by decide +kernel
theorem dX6_ageBaskets_24 : decode cX6_ageBaskets 24 = .ok (.aload_n 0, 1) := by decide +kernel
theorem dX6_ageBaskets_25 : decode cX6_ageBaskets 25 = .ok (.dup, 1) := by decide +kernel
theorem dX6_ageBaskets_26 : decode cX6_ageBaskets 26 = .ok (.getfield 76, 3) := by decide +kernel
theorem dX6_ageBaskets_29 : decode cX6_ageBaskets 29 = .ok (.aload_n 0, 1) := by decide +kernel
theorem dX6_ageBaskets_30 : decode cX6_ageBaskets 30 = .ok (.getfield 17, 3) := by decide +kernel
theorem dX6_ageBaskets_33 : decode cX6_ageBaskets 33 = .ok (.iload_n 2, 1) := by decide +kernel
theorem dX6_ageBaskets_34 : decode cX6_ageBaskets 34 = .ok (.aaload, 1) := by decide +kernel
theorem dX6_ageBaskets_35 : decode cX6_ageBaskets 35 = .ok (.getfield 149, 3) := by decide +kernel
theorem dX6_ageBaskets_38 : decode cX6_ageBaskets 38 = .ok (.iadd, 1) := by decide +kernel
theorem dX6_ageBaskets_39 : decode cX6_ageBaskets 39 = .ok (.putfield 76, 3) := by decide +kernel
theorem dX6_ageBaskets_42 : decode cX6_ageBaskets 42 = .ok (.iinc 1 1, 3) := by decide +kernel
theorem dX6_ageBaskets_45 : decode cX6_ageBaskets 45 = .ok (.iinc 2 1, 3) := by decide +kernel
theorem dX6_ageBaskets_48 : decode cX6_ageBaskets 48 = .ok (.goto (-44), 3) := by decide +kernel
theorem dX6_ageBaskets_51 : decode cX6_ageBaskets 51 = .ok (.iload_n 1, 1) := by decide +kernel
theorem dX6_ageBaskets_52 : decode cX6_ageBaskets 52 = .ok (.ireturn, 1) := by decide +kernel
theorem dX6_ageLots_0 : decode cX6_ageLots 0 = .ok (.iconst 0, 1) := by decide +kernel
theorem dX6_ageLots_1 : decode cX6_ageLots 1 = .ok (.istore_n 1, 1) := by decide +kernel
theorem dX6_ageLots_2 : decode cX6_ageLots 2 = .ok (.iload_n 1, 1) := by decide +kernel
theorem dX6_ageLots_3 : decode cX6_ageLots 3 = .ok (.aload_n 0, 1) := by decide +kernel
theorem dX6_ageLots_4 : decode cX6_ageLots 4 = .ok (.getfield 58, 3) := by decide +kernel
theorem dX6_ageLots_7 : decode cX6_ageLots 7 = .ok (.if_icmp .ge 36, 3) := by decide +kernel
theorem dX6_ageLots_10 : decode cX6_ageLots 10 = .ok (.aload_n 0, 1) := by decide +kernel
theorem dX6_ageLots_11 : decode cX6_ageLots 11 = .ok (.getfield 35, 3) := by decide +kernel
theorem dX6_ageLots_14 : decode cX6_ageLots 14 = .ok (.iload_n 1, 1) := by decide +kernel
theorem dX6_ageLots_15 : decode cX6_ageLots 15 = .ok (.aaload, 1) := by decide +kernel
theorem dX6_ageLots_16 : decode cX6_ageLots 16 = .ok (.getfield 231, 3) := by decide +kernel
theorem dX6_ageLots_19 : decode cX6_ageLots 19 = .ok (.ifCond .eq 18, 3) := by decide +kernel
theorem dX6_ageLots_22 : decode cX6_ageLots 22 = .ok (.aload_n 0, 1) := by decide +kernel
theorem dX6_ageLots_23 : decode cX6_ageLots 23 = .ok (.getfield 35, 3) := by decide +kernel
theorem dX6_ageLots_26 : decode cX6_ageLots 26 = .ok (.iload_n 1, 1) := by decide +kernel
theorem dX6_ageLots_27 : decode cX6_ageLots 27 = .ok (.aaload, 1) := by decide +kernel
theorem dX6_ageLots_28 : decode cX6_ageLots 28 = .ok (.dup, 1) := by decide +kernel
theorem dX6_ageLots_29 : decode cX6_ageLots 29 = .ok (.getfield 313, 3) := by decide +kernel
theorem dX6_ageLots_32 : decode cX6_ageLots 32 = .ok (.iconst 1, 1) := by decide +kernel
theorem dX6_ageLots_33 : decode cX6_ageLots 33 = .ok (.iadd, 1) := by decide +kernel
theorem dX6_ageLots_34 : decode cX6_ageLots 34 = .ok (.putfield 313, 3) := by decide +kernel
theorem dX6_ageLots_37 : decode cX6_ageLots 37 = .ok (.iinc 1 1, 3) := by decide +kernel
theorem dX6_ageLots_40 : decode cX6_ageLots 40 = .ok (.goto (-38), 3) := by decide +kernel
theorem dX6_ageLots_43 : decode cX6_ageLots 43 = .ok (.return_, 1) := by decide +kernel
theorem dX6_lotsInStore_0 : decode cX6_lotsInStore 0 = .ok (.iconst 0, 1) := by decide +kernel
theorem dX6_lotsInStore_1 : decode cX6_lotsInStore 1 = .ok (.istore_n 1, 1) := by decide +kernel
theorem dX6_lotsInStore_2 : decode cX6_lotsInStore 2 = .ok (.iconst 0, 1) := by decide +kernel
theorem dX6_lotsInStore_3 : decode cX6_lotsInStore 3 = .ok (.istore_n 2, 1) := by decide +kernel
theorem dX6_lotsInStore_4 : decode cX6_lotsInStore 4 = .ok (.iload_n 2, 1) := by decide +kernel
theorem dX6_lotsInStore_5 : decode cX6_lotsInStore 5 = .ok (.aload_n 0, 1) := by decide +kernel
theorem dX6_lotsInStore_6 : decode cX6_lotsInStore 6 = .ok (.getfield 58, 3) := by decide +kernel
theorem dX6_lotsInStore_9 : decode cX6_lotsInStore 9 = .ok (.if_icmp .ge 24, 3) := by decide +kernel
theorem dX6_lotsInStore_12 : decode cX6_lotsInStore 12 = .ok (.aload_n 0, 1) := by decide +kernel
theorem dX6_lotsInStore_13 : decode cX6_lotsInStore 13 = .ok (.getfield 35, 3) := by decide +kernel
theorem dX6_lotsInStore_16 : decode cX6_lotsInStore 16 = .ok (.iload_n 2, 1) := by decide +kernel
theorem dX6_lotsInStore_17 : decode cX6_lotsInStore 17 = .ok (.aaload, 1) := by decide +kernel
theorem dX6_lotsInStore_18 : decode cX6_lotsInStore 18 = .ok (.getfield 231, 3) := by decide +kernel
theorem dX6_lotsInStore_21 : decode cX6_lotsInStore 21 = .ok (.ifCond .eq 6, 3) := by decide +kernel
theorem dX6_lotsInStore_24 : decode cX6_lotsInStore 24 = .ok (.iinc 1 1, 3) := by decide +kernel
theorem dX6_lotsInStore_27 : decode cX6_lotsInStore 27 = .ok (.iinc 2 1, 3) := by decide +kernel
theorem dX6_lotsInStore_30 : decode cX6_lotsInStore 30 = .ok (.goto (-26), 3) := by decide +kernel
theorem dX6_lotsInStore_33 : decode cX6_lotsInStore 33 = .ok (.iload_n 1, 1) := by decide +kernel
theorem dX6_lotsInStore_34 : decode cX6_lotsInStore 34 = .ok (.ireturn, 1) := by decide +kernel
theorem dX6_allKilosInStore_0 : decode cX6_allKilosInStore 0 = .ok (.iconst 0, 1) := by decide +kernel
theorem dX6_allKilosInStore_1 : decode cX6_allKilosInStore 1 = .ok (.istore_n 1, 1) := by decide +kernel
theorem dX6_allKilosInStore_2 : decode cX6_allKilosInStore 2 = .ok (.iconst 0, 1) := by decide +kernel
theorem dX6_allKilosInStore_3 : decode cX6_allKilosInStore 3 = .ok (.istore_n 2, 1) := by decide +kernel
theorem dX6_allKilosInStore_4 : decode cX6_allKilosInStore 4 = .ok (.iload_n 2, 1) := by decide +kernel
theorem dX6_allKilosInStore_5 : decode cX6_allKilosInStore 5 = .ok (.aload_n 0, 1) := by decide +kernel
theorem dX6_allKilosInStore_6 : decode cX6_allKilosInStore 6 = .ok (.getfield 58, 3) := by decide +kernel
theorem dX6_allKilosInStore_9 : decode cX6_allKilosInStore 9 = .ok (.if_icmp .ge 36, 3) := by decide +kernel
theorem dX6_allKilosInStore_12 : decode cX6_allKilosInStore 12 = .ok (.aload_n 0, 1) := by decide +kernel
theorem dX6_allKilosInStore_13 : decode cX6_allKilosInStore 13 = .ok (.getfield 35, 3) := by decide +kernel
theorem dX6_allKilosInStore_16 : decode cX6_allKilosInStore 16 = .ok (.iload_n 2, 1) := by decide +kernel
theorem dX6_allKilosInStore_17 : decode cX6_allKilosInStore 17 = .ok (.aaload, 1) := by decide +kernel
theorem dX6_allKilosInStore_18 : decode cX6_allKilosInStore 18 = .ok (.getfield 231, 3) := by decide +kernel
theorem dX6_allKilosInStore_21 : decode cX6_allKilosInStore 21 = .ok (.ifCond .eq 18, 3) := by decide +kernel
theorem dX6_allKilosInStore_24 : decode cX6_allKilosInStore 24 = .ok (.iload_n 1, 1) := by decide +kernel
theorem dX6_allKilosInStore_25 : decode cX6_allKilosInStore 25 = .ok (.aload_n 0, 1) := by decide +kernel
theorem dX6_allKilosInStore_26 : decode cX6_allKilosInStore 26 = .ok (.getfield 35, 3) := by decide +kernel
theorem dX6_allKilosInStore_29 : decode cX6_allKilosInStore 29 = .ok (.iload_n 2, 1) := by decide +kernel
theorem dX6_allKilosInStore_30 : decode cX6_allKilosInStore 30 = .ok (.aaload, 1) := by decide +kernel
theorem dX6_allKilosInStore_31 : decode cX6_allKilosInStore 31 = .ok (.getfield 219, 3) := by decide +kernel
theorem dX6_allKilosInStore_34 : decode cX6_allKilosInStore 34 = .ok (.getfield 171, 3) := by decide +kernel
theorem dX6_allKilosInStore_37 : decode cX6_allKilosInStore 37 = .ok (.iadd, 1) := by decide +kernel
theorem dX6_allKilosInStore_38 : decode cX6_allKilosInStore 38 = .ok (.istore_n 1, 1) := by decide +kernel
theorem dX6_allKilosInStore_39 : decode cX6_allKilosInStore 39 = .ok (.iinc 2 1, 3) := by decide +kernel
theorem dX6_allKilosInStore_42 : decode cX6_allKilosInStore 42 = .ok (.goto (-38), 3) := by decide +kernel
theorem dX6_allKilosInStore_45 : decode cX6_allKilosInStore 45 = .ok (.iload_n 1, 1) := by decide +kernel
theorem dX6_allKilosInStore_46 : decode cX6_allKilosInStore 46 = .ok (.ireturn, 1) := by decide +kernel
theorem dX6_kilosInStore_0 : decode cX6_kilosInStore 0 = .ok (.iconst 0, 1) := by decide +kernel
theorem dX6_kilosInStore_1 : decode cX6_kilosInStore 1 = .ok (.istore_n 2, 1) := by decide +kernel
theorem dX6_kilosInStore_2 : decode cX6_kilosInStore 2 = .ok (.iconst 0, 1) := by decide +kernel
theorem dX6_kilosInStore_3 : decode cX6_kilosInStore 3 = .ok (.istore_n 3, 1) := by decide +kernel
theorem dX6_kilosInStore_4 : decode cX6_kilosInStore 4 = .ok (.iload_n 3, 1) := by decide +kernel
theorem dX6_kilosInStore_5 : decode cX6_kilosInStore 5 = .ok (.aload_n 0, 1) := by decide +kernel
theorem dX6_kilosInStore_6 : decode cX6_kilosInStore 6 = .ok (.getfield 58, 3) := by decide +kernel
theorem dX6_kilosInStore_9 : decode cX6_kilosInStore 9 = .ok (.if_icmp .ge 38, 3) := by decide +kernel
theorem dX6_kilosInStore_12 : decode cX6_kilosInStore 12 = .ok (.aload_n 0, 1) := by decide +kernel
theorem dX6_kilosInStore_13 : decode cX6_kilosInStore 13 = .ok (.getfield 35, 3) := by decide +kernel
theorem dX6_kilosInStore_16 : decode cX6_kilosInStore 16 = .ok (.iload_n 3, 1) := by decide +kernel
theorem dX6_kilosInStore_17 : decode cX6_kilosInStore 17 = .ok (.aaload, 1) := by decide +kernel
theorem dX6_kilosInStore_18 : decode cX6_kilosInStore 18 = .ok (.getfield 231, 3) := by decide +kernel
theorem dX6_kilosInStore_21 : decode cX6_kilosInStore 21 = .ok (.ifCond .eq 20, 3) := by decide +kernel
theorem dX6_kilosInStore_24 : decode cX6_kilosInStore 24 = .ok (.iload_n 2, 1) := by decide +kernel
theorem dX6_kilosInStore_25 : decode cX6_kilosInStore 25 = .ok (.aload_n 0, 1) := by decide +kernel
theorem dX6_kilosInStore_26 : decode cX6_kilosInStore 26 = .ok (.getfield 35, 3) := by decide +kernel
theorem dX6_kilosInStore_29 : decode cX6_kilosInStore 29 = .ok (.iload_n 3, 1) := by decide +kernel
theorem dX6_kilosInStore_30 : decode cX6_kilosInStore 30 = .ok (.aaload, 1) := by decide +kernel
theorem dX6_kilosInStore_31 : decode cX6_kilosInStore 31 = .ok (.getfield 219, 3) := by decide +kernel
theorem dX6_kilosInStore_34 : decode cX6_kilosInStore 34 = .ok (.getfield 325, 3) := by decide +kernel
theorem dX6_kilosInStore_37 : decode cX6_kilosInStore 37 = .ok (.iload_n 1, 1) := by decide +kernel
theorem dX6_kilosInStore_38 : decode cX6_kilosInStore 38 = .ok (.iaload, 1) := by decide +kernel
theorem dX6_kilosInStore_39 : decode cX6_kilosInStore 39 = .ok (.iadd, 1) := by decide +kernel
theorem dX6_kilosInStore_40 : decode cX6_kilosInStore 40 = .ok (.istore_n 2, 1) := by decide +kernel
theorem dX6_kilosInStore_41 : decode cX6_kilosInStore 41 = .ok (.iinc 3 1, 3) := by decide +kernel
theorem dX6_kilosInStore_44 : decode cX6_kilosInStore 44 = .ok (.goto (-40), 3) := by decide +kernel
theorem dX6_kilosInStore_47 : decode cX6_kilosInStore 47 = .ok (.iload_n 2, 1) := by decide +kernel
theorem dX6_kilosInStore_48 : decode cX6_kilosInStore 48 = .ok (.ireturn, 1) := by decide +kernel
theorem dX6_waitingKilos_0 : decode cX6_waitingKilos 0 = .ok (.iconst 0, 1) := by decide +kernel
theorem dX6_waitingKilos_1 : decode cX6_waitingKilos 1 = .ok (.istore_n 1, 1) := by decide +kernel
theorem dX6_waitingKilos_2 : decode cX6_waitingKilos 2 = .ok (.iconst 0, 1) := by decide +kernel
theorem dX6_waitingKilos_3 : decode cX6_waitingKilos 3 = .ok (.istore_n 2, 1) := by decide +kernel
theorem dX6_waitingKilos_4 : decode cX6_waitingKilos 4 = .ok (.iload_n 2, 1) := by decide +kernel
theorem dX6_waitingKilos_5 : decode cX6_waitingKilos 5 = .ok (.aload_n 0, 1) := by decide +kernel
theorem dX6_waitingKilos_6 : decode cX6_waitingKilos 6 = .ok (.getfield 52, 3) := by decide +kernel
theorem dX6_waitingKilos_9 : decode cX6_waitingKilos 9 = .ok (.if_icmp .ge 33, 3) := by decide +kernel
theorem dX6_waitingKilos_12 : decode cX6_waitingKilos 12 = .ok (.aload_n 0, 1) := by decide +kernel
theorem dX6_waitingKilos_13 : decode cX6_waitingKilos 13 = .ok (.getfield 17, 3) := by decide +kernel
theorem dX6_waitingKilos_16 : decode cX6_waitingKilos 16 = .ok (.iload_n 2, 1) := by decide +kernel
theorem dX6_waitingKilos_17 : decode cX6_waitingKilos 17 = .ok (.aaload, 1) := by decide +kernel
theorem dX6_waitingKilos_18 : decode cX6_waitingKilos 18 = .ok (.getfield 152, 3) := by decide +kernel
theorem dX6_waitingKilos_21 : decode cX6_waitingKilos 21 = .ok (.ifCond .ne 15, 3) := by decide +kernel
theorem dX6_waitingKilos_24 : decode cX6_waitingKilos 24 = .ok (.iload_n 1, 1) := by decide +kernel
theorem dX6_waitingKilos_25 : decode cX6_waitingKilos 25 = .ok (.aload_n 0, 1) := by decide +kernel
theorem dX6_waitingKilos_26 : decode cX6_waitingKilos 26 = .ok (.getfield 17, 3) := by decide +kernel
theorem dX6_waitingKilos_29 : decode cX6_waitingKilos 29 = .ok (.iload_n 2, 1) := by decide +kernel
theorem dX6_waitingKilos_30 : decode cX6_waitingKilos 30 = .ok (.aaload, 1) := by decide +kernel
theorem dX6_waitingKilos_31 : decode cX6_waitingKilos 31 = .ok (.getfield 149, 3) := by decide +kernel
theorem dX6_waitingKilos_34 : decode cX6_waitingKilos 34 = .ok (.iadd, 1) := by decide +kernel
theorem dX6_waitingKilos_35 : decode cX6_waitingKilos 35 = .ok (.istore_n 1, 1) := by decide +kernel
theorem dX6_waitingKilos_36 : decode cX6_waitingKilos 36 = .ok (.iinc 2 1, 3) := by decide +kernel
theorem dX6_waitingKilos_39 : decode cX6_waitingKilos 39 = .ok (.goto (-35), 3) := by decide +kernel
theorem dX6_waitingKilos_42 : decode cX6_waitingKilos 42 = .ok (.iload_n 1, 1) := by decide +kernel
theorem dX6_waitingKilos_43 : decode cX6_waitingKilos 43 = .ok (.ireturn, 1) := by decide +kernel
theorem dX6_kilosInTanks_0 : decode cX6_kilosInTanks 0 = .ok (.iconst 0, 1) := by decide +kernel
theorem dX6_kilosInTanks_1 : decode cX6_kilosInTanks 1 = .ok (.istore_n 1, 1) := by decide +kernel
theorem dX6_kilosInTanks_2 : decode cX6_kilosInTanks 2 = .ok (.iconst 0, 1) := by decide +kernel
theorem dX6_kilosInTanks_3 : decode cX6_kilosInTanks 3 = .ok (.istore_n 2, 1) := by decide +kernel
theorem dX6_kilosInTanks_4 : decode cX6_kilosInTanks 4 = .ok (.iload_n 2, 1) := by decide +kernel
theorem dX6_kilosInTanks_5 : decode cX6_kilosInTanks 5 = .ok (.iconst 3, 1) := by decide +kernel
theorem dX6_kilosInTanks_6 : decode cX6_kilosInTanks 6 = .ok (.if_icmp .ge 24, 3) := by decide +kernel
theorem dX6_kilosInTanks_9 : decode cX6_kilosInTanks 9 = .ok (.iload_n 1, 1) := by decide +kernel
theorem dX6_kilosInTanks_10 : decode cX6_kilosInTanks 10 = .ok (.aload_n 0, 1) := by decide +kernel
theorem dX6_kilosInTanks_11 : decode cX6_kilosInTanks 11 = .ok (.getfield 23, 3) := by decide +kernel
theorem dX6_kilosInTanks_14 : decode cX6_kilosInTanks 14 = .ok (.iload_n 2, 1) := by decide +kernel
theorem dX6_kilosInTanks_15 : decode cX6_kilosInTanks 15 = .ok (.aaload, 1) := by decide +kernel
theorem dX6_kilosInTanks_16 : decode cX6_kilosInTanks 16 = .ok (.getfield 161, 3) := by decide +kernel
theorem dX6_kilosInTanks_19 : decode cX6_kilosInTanks 19 = .ok (.getfield 171, 3) := by decide +kernel
theorem dX6_kilosInTanks_22 : decode cX6_kilosInTanks 22 = .ok (.iadd, 1) := by decide +kernel
theorem dX6_kilosInTanks_23 : decode cX6_kilosInTanks 23 = .ok (.istore_n 1, 1) := by decide +kernel
theorem dX6_kilosInTanks_24 : decode cX6_kilosInTanks 24 = .ok (.iinc 2 1, 3) := by decide +kernel
theorem dX6_kilosInTanks_27 : decode cX6_kilosInTanks 27 = .ok (.goto (-23), 3) := by decide +kernel
theorem dX6_kilosInTanks_30 : decode cX6_kilosInTanks 30 = .ok (.iload_n 1, 1) := by decide +kernel
theorem dX6_kilosInTanks_31 : decode cX6_kilosInTanks 31 = .ok (.ireturn, 1) := by decide +kernel
theorem dX6_kilosOnBeds_0 : decode cX6_kilosOnBeds 0 = .ok (.iconst 0, 1) := by decide +kernel
theorem dX6_kilosOnBeds_1 : decode cX6_kilosOnBeds 1 = .ok (.istore_n 1, 1) := by decide +kernel
theorem dX6_kilosOnBeds_2 : decode cX6_kilosOnBeds 2 = .ok (.iconst 0, 1) := by decide +kernel
theorem dX6_kilosOnBeds_3 : decode cX6_kilosOnBeds 3 = .ok (.istore_n 2, 1) := by decide +kernel
theorem dX6_kilosOnBeds_4 : decode cX6_kilosOnBeds 4 = .ok (.iload_n 2, 1) := by decide +kernel
theorem dX6_kilosOnBeds_5 : decode cX6_kilosOnBeds 5 = .ok (.aload_n 0, 1) := by decide +kernel
theorem dX6_kilosOnBeds_6 : decode cX6_kilosOnBeds 6 = .ok (.getfield 55, 3) := by decide +kernel
theorem dX6_kilosOnBeds_9 : decode cX6_kilosOnBeds 9 = .ok (.if_icmp .ge 24, 3) := by decide +kernel
theorem dX6_kilosOnBeds_12 : decode cX6_kilosOnBeds 12 = .ok (.iload_n 1, 1) := by decide +kernel
theorem dX6_kilosOnBeds_13 : decode cX6_kilosOnBeds 13 = .ok (.aload_n 0, 1) := by decide +kernel
theorem dX6_kilosOnBeds_14 : decode cX6_kilosOnBeds 14 = .ok (.getfield 29, 3) := by decide +kernel
theorem dX6_kilosOnBeds_17 : decode cX6_kilosOnBeds 17 = .ok (.iload_n 2, 1) := by decide +kernel
theorem dX6_kilosOnBeds_18 : decode cX6_kilosOnBeds 18 = .ok (.aaload, 1) := by decide +kernel
theorem dX6_kilosOnBeds_19 : decode cX6_kilosOnBeds 19 = .ok (.getfield 190, 3) := by decide +kernel
theorem dX6_kilosOnBeds_22 : decode cX6_kilosOnBeds 22 = .ok (.getfield 171, 3) := by decide +kernel
theorem dX6_kilosOnBeds_25 : decode cX6_kilosOnBeds 25 = .ok (.iadd, 1) := by decide +kernel
theorem dX6_kilosOnBeds_26 : decode cX6_kilosOnBeds 26 = .ok (.istore_n 1, 1) := by decide +kernel
theorem dX6_kilosOnBeds_27 : decode cX6_kilosOnBeds 27 = .ok (.iinc 2 1, 3) := by decide +kernel
theorem dX6_kilosOnBeds_30 : decode cX6_kilosOnBeds 30 = .ok (.goto (-26), 3) := by decide +kernel
theorem dX6_kilosOnBeds_33 : decode cX6_kilosOnBeds 33 = .ok (.iload_n 1, 1) := by decide +kernel
theorem dX6_kilosOnBeds_34 : decode cX6_kilosOnBeds 34 = .ok (.ireturn, 1) := by decide +kernel
theorem dX6_allCoins_0 : decode cX6_allCoins 0 = .ok (.iconst 0, 1) := by decide +kernel
theorem dX6_allCoins_1 : decode cX6_allCoins 1 = .ok (.istore_n 1, 1) := by decide +kernel
theorem dX6_allCoins_2 : decode cX6_allCoins 2 = .ok (.iconst 0, 1) := by decide +kernel
theorem dX6_allCoins_3 : decode cX6_allCoins 3 = .ok (.istore_n 2, 1) := by decide +kernel
theorem dX6_allCoins_4 : decode cX6_allCoins 4 = .ok (.iload_n 2, 1) := by decide +kernel
theorem dX6_allCoins_5 : decode cX6_allCoins 5 = .ok (.aload_n 0, 1) := by decide +kernel
theorem dX6_allCoins_6 : decode cX6_allCoins 6 = .ok (.getfield 48, 3) := by decide +kernel
theorem dX6_allCoins_9 : decode cX6_allCoins 9 = .ok (.if_icmp .ge 21, 3) := by decide +kernel
theorem dX6_allCoins_12 : decode cX6_allCoins 12 = .ok (.iload_n 1, 1) := by decide +kernel
theorem dX6_allCoins_13 : decode cX6_allCoins 13 = .ok (.aload_n 0, 1) := by decide +kernel
theorem dX6_allCoins_14 : decode cX6_allCoins 14 = .ok (.getfield 11, 3) := by decide +kernel
theorem dX6_allCoins_17 : decode cX6_allCoins 17 = .ok (.iload_n 2, 1) := by decide +kernel
theorem dX6_allCoins_18 : decode cX6_allCoins 18 = .ok (.aaload, 1) := by decide +kernel
theorem dX6_allCoins_19 : decode cX6_allCoins 19 = .ok (.getfield 123, 3) := by decide +kernel
theorem dX6_allCoins_22 : decode cX6_allCoins 22 = .ok (.iadd, 1) := by decide +kernel
theorem dX6_allCoins_23 : decode cX6_allCoins 23 = .ok (.istore_n 1, 1) := by decide +kernel
theorem dX6_allCoins_24 : decode cX6_allCoins 24 = .ok (.iinc 2 1, 3) := by decide +kernel
theorem dX6_allCoins_27 : decode cX6_allCoins 27 = .ok (.goto (-23), 3) := by decide +kernel
theorem dX6_allCoins_30 : decode cX6_allCoins 30 = .ok (.iload_n 1, 1) := by decide +kernel
theorem dX6_allCoins_31 : decode cX6_allCoins 31 = .ok (.ireturn, 1) := by decide +kernel
theorem dX6_blendedScore_0 : decode cX6_blendedScore 0 = .ok (.aload_n 0, 1) := by decide +kernel
theorem dX6_blendedScore_1 : decode cX6_blendedScore 1 = .ok (.getfield 40, 3) := by decide +kernel
theorem dX6_blendedScore_4 : decode cX6_blendedScore 4 = .ok (.aload_n 1, 1) := by decide +kernel
theorem dX6_blendedScore_5 : decode cX6_blendedScore 5 = .ok (.invokevirtual 447, 3) := by decide +kernel
theorem dX6_blendedScore_8 : decode cX6_blendedScore 8 = .ok (.aload_n 0, 1) := by decide +kernel
theorem dX6_blendedScore_9 : decode cX6_blendedScore 9 = .ok (.getfield 40, 3) := by decide +kernel
theorem dX6_blendedScore_12 : decode cX6_blendedScore 12 = .ok (.aload_n 2, 1) := by decide +kernel
theorem dX6_blendedScore_13 : decode cX6_blendedScore 13 = .ok (.invokevirtual 251, 3) := by decide +kernel
theorem dX6_blendedScore_16 : decode cX6_blendedScore 16 = .ok (.aload_n 0, 1) := by decide +kernel
theorem dX6_blendedScore_17 : decode cX6_blendedScore 17 = .ok (.getfield 40, 3) := by decide +kernel
theorem dX6_blendedScore_20 : decode cX6_blendedScore 20 = .ok (.aload_n 0, 1) := by decide +kernel
theorem dX6_blendedScore_21 : decode cX6_blendedScore 21 = .ok (.getfield 11, 3) := by decide +kernel
theorem dX6_blendedScore_24 : decode cX6_blendedScore 24 = .ok (.invokevirtual 236, 3) := by decide +kernel
theorem dX6_blendedScore_27 : decode cX6_blendedScore 27 = .ok (.ireturn, 1) := by decide +kernel
theorem dX6_meanByKilos_0 : decode cX6_meanByKilos 0 = .ok (.iload_n 0, 1) := by decide +kernel
theorem dX6_meanByKilos_1 : decode cX6_meanByKilos 1 = .ok (.iload_n 2, 1) := by decide +kernel
theorem dX6_meanByKilos_2 : decode cX6_meanByKilos 2 = .ok (.iadd, 1) := by decide +kernel
theorem dX6_meanByKilos_3 : decode cX6_meanByKilos 3 = .ok (.istore 4, 2) := by decide +kernel
theorem dX6_meanByKilos_5 : decode cX6_meanByKilos 5 = .ok (.iload 4, 2) := by decide +kernel
theorem dX6_meanByKilos_7 : decode cX6_meanByKilos 7 = .ok (.ifCond .le 16, 3) := by decide +kernel
theorem dX6_meanByKilos_10 : decode cX6_meanByKilos 10 = .ok (.iload_n 0, 1) := by decide +kernel
theorem dX6_meanByKilos_11 : decode cX6_meanByKilos 11 = .ok (.iload_n 1, 1) := by decide +kernel
theorem dX6_meanByKilos_12 : decode cX6_meanByKilos 12 = .ok (.imul, 1) := by decide +kernel
theorem dX6_meanByKilos_13 : decode cX6_meanByKilos 13 = .ok (.iload_n 2, 1) := by decide +kernel
theorem dX6_meanByKilos_14 : decode cX6_meanByKilos 14 = .ok (.iload_n 3, 1) := by decide +kernel
theorem dX6_meanByKilos_15 : decode cX6_meanByKilos 15 = .ok (.imul, 1) := by decide +kernel
theorem dX6_meanByKilos_16 : decode cX6_meanByKilos 16 = .ok (.iadd, 1) := by decide +kernel
theorem dX6_meanByKilos_17 : decode cX6_meanByKilos 17 = .ok (.iload 4, 2) := by decide +kernel
theorem dX6_meanByKilos_19 : decode cX6_meanByKilos 19 = .ok (.idiv, 1) := by decide +kernel
theorem dX6_meanByKilos_20 : decode cX6_meanByKilos 20 = .ok (.goto 4, 3) := by decide +kernel
theorem dX6_meanByKilos_23 : decode cX6_meanByKilos 23 = .ok (.iconst 0, 1) := by decide +kernel
theorem dX6_meanByKilos_24 : decode cX6_meanByKilos 24 = .ok (.ireturn, 1) := by decide +kernel
theorem dJ9_max_7cf53_0 : decode cJ9_max_7cf53 0 = .ok (.iload_n 0, 1) := by decide +kernel
theorem dJ9_max_7cf53_1 : decode cJ9_max_7cf53 1 = .ok (.iload_n 1, 1) := by decide +kernel
theorem dJ9_max_7cf53_2 : decode cJ9_max_7cf53 2 = .ok (.if_icmp .lt 7, 3) := by decide +kernel
theorem dJ9_max_7cf53_5 : decode cJ9_max_7cf53 5 = .ok (.iload_n 0, 1) := by decide +kernel
theorem dJ9_max_7cf53_6 : decode cJ9_max_7cf53 6 = .ok (.goto 4, 3) := by decide +kernel
theorem dJ9_max_7cf53_9 : decode cJ9_max_7cf53 9 = .ok (.iload_n 1, 1) := by decide +kernel
theorem dJ9_max_7cf53_10 : decode cJ9_max_7cf53 10 = .ok (.ireturn, 1) := by decide +kernel
theorem dJ9_min_7cf53_0 : decode cJ9_min_7cf53 0 = .ok (.iload_n 0, 1) := by decide +kernel
theorem dJ9_min_7cf53_1 : decode cJ9_min_7cf53 1 = .ok (.iload_n 1, 1) := by decide +kernel
theorem dJ9_min_7cf53_2 : decode cJ9_min_7cf53 2 = .ok (.if_icmp .gt 7, 3) := by decide +kernel
theorem dJ9_min_7cf53_5 : decode cJ9_min_7cf53 5 = .ok (.iload_n 0, 1) := by decide +kernel
theorem dJ9_min_7cf53_6 : decode cJ9_min_7cf53 6 = .ok (.goto 4, 3) := by decide +kernel
theorem dJ9_min_7cf53_9 : decode cJ9_min_7cf53 9 = .ok (.iload_n 1, 1) := by decide +kernel
theorem dJ9_min_7cf53_10 : decode cJ9_min_7cf53 10 = .ok (.ireturn, 1) := by decide +kernel
theorem dL_below_0 : decode cL_below 0 = .ok (.iload_n 0, 1) := by decide +kernel
theorem dL_below_1 : decode cL_below 1 = .ok (.ldc 7, 2) := by decide +kernel
theorem dL_below_3 : decode cL_below 3 = .ok (.iand, 1) := by decide +kernel
theorem dL_below_4 : decode cL_below 4 = .ok (.iload_n 1, 1) := by decide +kernel
theorem dL_below_5 : decode cL_below 5 = .ok (.irem, 1) := by decide +kernel
theorem dL_below_6 : decode cL_below 6 = .ok (.ireturn, 1) := by decide +kernel
theorem dL_cell_0 : decode cL_cell 0 = .ok (.iload_n 1, 1) := by decide +kernel
theorem dL_cell_1 : decode cL_cell 1 = .ok (.aload_n 0, 1) := by decide +kernel
theorem dL_cell_2 : decode cL_cell 2 = .ok (.arraylength, 1) := by decide +kernel
theorem dL_cell_3 : decode cL_cell 3 = .ok (.if_icmp .ge 9, 3) := by decide +kernel
theorem dL_cell_6 : decode cL_cell 6 = .ok (.aload_n 0, 1) := by decide +kernel
theorem dL_cell_7 : decode cL_cell 7 = .ok (.iload_n 1, 1) := by decide +kernel
theorem dL_cell_8 : decode cL_cell 8 = .ok (.iaload, 1) := by decide +kernel
theorem dL_cell_9 : decode cL_cell 9 = .ok (.goto 9, 3) := by decide +kernel
theorem dL_cell_12 : decode cL_cell 12 = .ok (.ldc 8, 2) := by decide +kernel
theorem dL_cell_14 : decode cL_cell 14 = .ok (.iload_n 1, 1) := by decide +kernel
theorem dL_cell_15 : decode cL_cell 15 = .ok (.iconst 3, 1) := by decide +kernel
theorem dL_cell_16 : decode cL_cell 16 = .ok (.iadd, 1) := by decide +kernel
theorem dL_cell_17 : decode cL_cell 17 = .ok (.imul, 1) := by decide +kernel
theorem dL_cell_18 : decode cL_cell 18 = .ok (.ireturn, 1) := by decide +kernel
theorem dL_law_0 : decode cL_law 0 = .ok (.new 9, 3) := by decide +kernel
theorem dL_law_3 : decode cL_law 3 = .ok (.dup, 1) := by decide +kernel
theorem dL_law_4 : decode cL_law 4 = .ok (.invokespecial 11, 3) := by decide +kernel
theorem dL_law_7 : decode cL_law 7 = .ok (.astore_n 1, 1) := by decide +kernel
theorem dL_law_8 : decode cL_law 8 = .ok (.iconst 1, 1) := by decide +kernel
theorem dL_law_9 : decode cL_law 9 = .ok (.aload_n 0, 1) := by decide +kernel
theorem dL_law_10 : decode cL_law 10 = .ok (.iconst 0, 1) := by decide +kernel
theorem dL_law_11 : decode cL_law 11 = .ok (.invokestatic 12, 3) := by decide +kernel
theorem dL_law_14 : decode cL_law 14 = .ok (.bipush 6, 2) := by decide +kernel
theorem dL_law_16 : decode cL_law 16 = .ok (.invokestatic 18, 3) := by decide +kernel
theorem dL_law_19 : decode cL_law 19 = .ok (.iadd, 1) := by decide +kernel
theorem dL_law_20 : decode cL_law 20 = .ok (.istore_n 2, 1) := by decide +kernel
theorem dL_law_21 : decode cL_law 21 = .ok (.iconst 0, 1) := by decide +kernel
theorem dL_law_22 : decode cL_law 22 = .ok (.istore_n 3, 1) := by decide +kernel
theorem dL_law_23 : decode cL_law 23 = .ok (.iload_n 3, 1) := by decide +kernel
theorem dL_law_24 : decode cL_law 24 = .ok (.iload_n 2, 1) := by decide +kernel
theorem dL_law_25 : decode cL_law 25 = .ok (.if_icmp .ge 34, 3) := by decide +kernel
theorem dL_law_28 : decode cL_law 28 = .ok (.aload_n 1, 1) := by decide +kernel
theorem dL_law_29 : decode cL_law 29 = .ok (.bipush 10, 2) := by decide +kernel
theorem dL_law_31 : decode cL_law 31 = .ok (.aload_n 0, 1) := by decide +kernel
theorem dL_law_32 : decode cL_law 32 = .ok (.iconst 1, 1) := by decide +kernel
theorem dL_law_33 : decode cL_law 33 = .ok (.iload_n 3, 1) := by decide +kernel
theorem dL_law_34 : decode cL_law 34 = .ok (.iadd, 1) := by decide +kernel
theorem dL_law_35 : decode cL_law 35 = .ok (.invokestatic 12, 3) := by decide +kernel
theorem dL_law_38 : decode cL_law 38 = .ok (.bipush 13, 2) := by decide +kernel
theorem dL_law_40 : decode cL_law 40 = .ok (.invokestatic 18, 3) := by decide +kernel
theorem dL_law_43 : decode cL_law 43 = .ok (.iadd, 1) := by decide +kernel
theorem dL_law_44 : decode cL_law 44 = .ok (.invokevirtual 22, 3) := by decide +kernel
theorem dL_law_47 : decode cL_law 47 = .ok (.iload_n 3, 1) := by decide +kernel
theorem dL_law_48 : decode cL_law 48 = .ok (.if_icmp .eq 5, 3) := by decide +kernel
theorem dL_law_51 : decode cL_law 51 = .ok (.iconst 0, 1) := by decide +kernel
theorem dL_law_52 : decode cL_law 52 = .ok (.ireturn, 1) := by decide +kernel
theorem dL_law_53 : decode cL_law 53 = .ok (.iinc 3 1, 3) := by decide +kernel
theorem dL_law_56 : decode cL_law 56 = .ok (.goto (-33), 3) := by decide +kernel
theorem dL_law_59 : decode cL_law 59 = .ok (.iconst 1, 1) := by decide +kernel
theorem dL_law_60 : decode cL_law 60 = .ok (.aload_n 0, 1) := by decide +kernel
theorem dL_law_61 : decode cL_law 61 = .ok (.bipush 7, 2) := by decide +kernel
theorem dL_law_63 : decode cL_law 63 = .ok (.invokestatic 12, 3) := by decide +kernel
theorem dL_law_66 : decode cL_law 66 = .ok (.iconst 4, 1) := by decide +kernel
theorem dL_law_67 : decode cL_law 67 = .ok (.invokestatic 18, 3) := by decide +kernel
theorem dL_law_70 : decode cL_law 70 = .ok (.iadd, 1) := by decide +kernel
theorem dL_law_71 : decode cL_law 71 = .ok (.istore_n 3, 1) := by decide +kernel
theorem dL_law_72 : decode cL_law 72 = .ok (.iconst 0, 1) := by decide +kernel
theorem dL_law_73 : decode cL_law 73 = .ok (.istore 4, 2) := by decide +kernel
theorem dL_law_75 : decode cL_law 75 = .ok (.iload 4, 2) := by decide +kernel
theorem dL_law_77 : decode cL_law 77 = .ok (.iload_n 3, 1) := by decide +kernel
theorem dL_law_78 : decode cL_law 78 = .ok (.if_icmp .ge 36, 3) := by decide +kernel
theorem dL_law_81 : decode cL_law 81 = .ok (.aload_n 1, 1) := by decide +kernel
theorem dL_law_82 : decode cL_law 82 = .ok (.iconst 5, 1) := by decide +kernel
theorem dL_law_83 : decode cL_law 83 = .ok (.aload_n 0, 1) := by decide +kernel
theorem dL_law_84 : decode cL_law 84 = .ok (.bipush 8, 2) := by decide +kernel
theorem dL_law_86 : decode cL_law 86 = .ok (.iload 4, 2) := by decide +kernel
theorem dL_law_88 : decode cL_law 88 = .ok (.iadd, 1) := by decide +kernel
theorem dL_law_89 : decode cL_law 89 = .ok (.invokestatic 12, 3) := by decide +kernel
theorem dL_law_92 : decode cL_law 92 = .ok (.bipush 36, 2) := by decide +kernel
theorem dL_law_94 : decode cL_law 94 = .ok (.invokestatic 18, 3) := by decide +kernel
theorem dL_law_97 : decode cL_law 97 = .ok (.iadd, 1) := by decide +kernel
theorem dL_law_98 : decode cL_law 98 = .ok (.invokevirtual 26, 3) := by decide +kernel
theorem dL_law_101 : decode cL_law 101 = .ok (.iload 4, 2) := by decide +kernel
theorem dL_law_103 : decode cL_law 103 = .ok (.if_icmp .eq 5, 3) := by decide +kernel
theorem dL_law_106 : decode cL_law 106 = .ok (.iconst 0, 1) := by decide +kernel
theorem dL_law_107 : decode cL_law 107 = .ok (.ireturn, 1) := by decide +kernel
theorem dL_law_108 : decode cL_law 108 = .ok (.iinc 4 1, 3) := by decide +kernel
theorem dL_law_111 : decode cL_law 111 = .ok (.goto (-36), 3) := by decide +kernel
theorem dL_law_114 : decode cL_law 114 = .ok (.iconst 0, 1) := by decide +kernel
theorem dL_law_115 : decode cL_law 115 = .ok (.istore 4, 2) := by decide +kernel
theorem dL_law_117 : decode cL_law 117 = .ok (.iconst 5, 1) := by decide +kernel
theorem dL_law_118 : decode cL_law 118 = .ok (.istore 5, 2) := by decide +kernel
theorem dL_law_120 : decode cL_law 120 = .ok (.iconst 0, 1) := by decide +kernel
theorem dL_law_121 : decode cL_law 121 = .ok (.istore 6, 2) := by decide +kernel
theorem dL_law_123 : decode cL_law 123 = .ok (.iload 6, 2) := by decide +kernel
theorem dL_law_125 : decode cL_law 125 = .ok (.bipush 76, 2) := by decide +kernel
theorem dL_law_127 : decode cL_law 127 = .ok (.if_icmp .ge 1296, 3) := by decide +kernel
theorem dL_law_130 : decode cL_law 130 = .ok (.aload_n 0, 1) := by decide +kernel
theorem dL_law_131 : decode cL_law 131 = .ok (.bipush 11, 2) := by decide +kernel
theorem dL_law_133 : decode cL_law 133 = .ok (.iload 6, 2) := by decide +kernel
theorem dL_law_135 : decode cL_law 135 = .ok (.bipush 19, 2) := by decide +kernel
theorem dL_law_137 : decode cL_law 137 = .ok (.irem, 1) := by decide +kernel
theorem dL_law_138 : decode cL_law 138 = .ok (.iadd, 1) := by decide +kernel
theorem dL_law_139 : decode cL_law 139 = .ok (.invokestatic 12, 3) := by decide +kernel
theorem dL_law_142 : decode cL_law 142 = .ok (.iload 6, 2) := by decide +kernel
theorem dL_law_144 : decode cL_law 144 = .ok (.bipush 19, 2) := by decide +kernel
theorem dL_law_146 : decode cL_law 146 = .ok (.idiv, 1) := by decide +kernel
theorem dL_law_147 : decode cL_law 147 = .ok (.iconst 4, 1) := by decide +kernel
theorem dL_law_148 : decode cL_law 148 = .ok (.imul, 1) := by decide +kernel
theorem dL_law_149 : decode cL_law 149 = .ok (.ishr, 1) := by decide +kernel
theorem dL_law_150 : decode cL_law 150 = .ok (.istore 7, 2) := by decide +kernel
theorem dL_law_152 : decode cL_law 152 = .ok (.iload 7, 2) := by decide +kernel
theorem dL_law_154 : decode cL_law 154 = .ok (.iconst 4, 1) := by decide +kernel
theorem dL_law_155 : decode cL_law 155 = .ok (.ishr, 1) := by decide +kernel
theorem dL_law_156 : decode cL_law 156 = .ok (.iload_n 2, 1) := by decide +kernel
theorem dL_law_157 : decode cL_law 157 = .ok (.invokestatic 18, 3) := by decide +kernel
theorem dL_law_160 : decode cL_law 160 = .ok (.istore 8, 2) := by decide +kernel
theorem dL_law_162 : decode cL_law 162 = .ok (.aload_n 1, 1) := by decide +kernel
theorem dL_law_163 : decode cL_law 163 = .ok (.iconst 2, 1) := by decide +kernel
theorem dL_law_164 : decode cL_law 164 = .ok (.invokevirtual 29, 3) := by decide +kernel
theorem dL_law_167 : decode cL_law 167 = .ok (.ifCond .ne 7, 3) := by decide +kernel
theorem dL_law_170 : decode cL_law 170 = .ok (.iconst (-1), 1) := by decide +kernel
theorem dL_law_171 : decode cL_law 171 = .ok (.goto 15, 3) := by decide +kernel
theorem dL_law_174 : decode cL_law 174 = .ok (.iload 7, 2) := by decide +kernel
theorem dL_law_176 : decode cL_law 176 = .ok (.iconst 5, 1) := by decide +kernel
theorem dL_law_177 : decode cL_law 177 = .ok (.ishr, 1) := by decide +kernel
theorem dL_law_178 : decode cL_law 178 = .ok (.aload_n 1, 1) := by decide +kernel
theorem dL_law_179 : decode cL_law 179 = .ok (.iconst 2, 1) := by decide +kernel
theorem dL_law_180 : decode cL_law 180 = .ok (.invokevirtual 29, 3) := by decide +kernel
theorem dL_law_183 : decode cL_law 183 = .ok (.invokestatic 18, 3) := by decide +kernel
theorem dL_law_186 : decode cL_law 186 = .ok (.istore 9, 2) := by decide +kernel
theorem dL_law_188 : decode cL_law 188 = .ok (.iload 7, 2) := by decide +kernel
theorem dL_law_190 : decode cL_law 190 = .ok (.iconst 3, 1) := by decide +kernel
theorem dL_law_191 : decode cL_law 191 = .ok (.ishr, 1) := by decide +kernel
theorem dL_law_192 : decode cL_law 192 = .ok (.iconst 3, 1) := by decide +kernel
theorem dL_law_193 : decode cL_law 193 = .ok (.invokestatic 18, 3) := by decide +kernel
theorem dL_law_196 : decode cL_law 196 = .ok (.istore 10, 2) := by decide +kernel
theorem dL_law_198 : decode cL_law 198 = .ok (.iload 7, 2) := by decide +kernel
theorem dL_law_200 : decode cL_law 200 = .ok (.bipush 6, 2) := by decide +kernel
theorem dL_law_202 : decode cL_law 202 = .ok (.ishr, 1) := by decide +kernel
theorem dL_law_203 : decode cL_law 203 = .ok (.iload_n 3, 1) := by decide +kernel
theorem dL_law_204 : decode cL_law 204 = .ok (.invokestatic 18, 3) := by decide +kernel
theorem dL_law_207 : decode cL_law 207 = .ok (.istore 11, 2) := by decide +kernel
theorem dL_law_209 : decode cL_law 209 = .ok (.aload_n 1, 1) := by decide +kernel
theorem dL_law_210 : decode cL_law 210 = .ok (.iconst 4, 1) := by decide +kernel
theorem dL_law_211 : decode cL_law 211 = .ok (.invokevirtual 29, 3) := by decide +kernel
theorem dL_law_214 : decode cL_law 214 = .ok (.ifCond .ne 7, 3) := by decide +kernel
theorem dL_law_217 : decode cL_law 217 = .ok (.iconst (-1), 1) := by decide +kernel
theorem dL_law_218 : decode cL_law 218 = .ok (.goto 15, 3) := by decide +kernel
theorem dL_law_221 : decode cL_law 221 = .ok (.iload 7, 2) := by decide +kernel
theorem dL_law_223 : decode cL_law 223 = .ok (.iconst 4, 1) := by decide +kernel
theorem dL_law_224 : decode cL_law 224 = .ok (.ishr, 1) := by decide +kernel
theorem dL_law_225 : decode cL_law 225 = .ok (.aload_n 1, 1) := by decide +kernel
theorem dL_law_226 : decode cL_law 226 = .ok (.iconst 4, 1) := by decide +kernel
theorem dL_law_227 : decode cL_law 227 = .ok (.invokevirtual 29, 3) := by decide +kernel
theorem dL_law_230 : decode cL_law 230 = .ok (.invokestatic 18, 3) := by decide +kernel
theorem dL_law_233 : decode cL_law 233 = .ok (.istore 12, 2) := by decide +kernel
theorem dL_law_235 : decode cL_law 235 = .ok (.iload 7, 2) := by decide +kernel
theorem dL_law_237 : decode cL_law 237 = .ok (.bipush 17, 2) := by decide +kernel
theorem dL_law_239 : decode cL_law 239 = .ok (.invokestatic 18, 3) := by decide +kernel
theorem dL_law_242 : decode cL_law 242 = .ok (.tableswitch 1068 0 15 #[78, 111, 141, 141, 141, 281, 281, 366, 366, 489, 577, 608, 669, 807, 844, 941], 78) := by decide +kernel
theorem dL_law_320 : decode cL_law 320 = .ok (.aload_n 1, 1) := by decide +kernel
theorem dL_law_321 : decode cL_law 321 = .ok (.iload 8, 2) := by decide +kernel
theorem dL_law_323 : decode cL_law 323 = .ok (.iconst 1, 1) := by decide +kernel
theorem dL_law_324 : decode cL_law 324 = .ok (.invokevirtual 32, 3) := by decide +kernel
theorem dL_law_327 : decode cL_law 327 = .ok (.istore 13, 2) := by decide +kernel
theorem dL_law_329 : decode cL_law 329 = .ok (.aload_n 1, 1) := by decide +kernel
theorem dL_law_330 : decode cL_law 330 = .ok (.iload 8, 2) := by decide +kernel
theorem dL_law_332 : decode cL_law 332 = .ok (.iload 7, 2) := by decide +kernel
theorem dL_law_334 : decode cL_law 334 = .ok (.iconst 3, 1) := by decide +kernel
theorem dL_law_335 : decode cL_law 335 = .ok (.ishr, 1) := by decide +kernel
theorem dL_law_336 : decode cL_law 336 = .ok (.bipush 40, 2) := by decide +kernel
theorem dL_law_338 : decode cL_law 338 = .ok (.invokestatic 18, 3) := by decide +kernel
theorem dL_law_341 : decode cL_law 341 = .ok (.iconst 1, 1) := by decide +kernel
theorem dL_law_342 : decode cL_law 342 = .ok (.isub, 1) := by decide +kernel
theorem dL_law_343 : decode cL_law 343 = .ok (.invokevirtual 35, 3) := by decide +kernel
theorem dL_law_346 : decode cL_law 346 = .ok (.iload 13, 2) := by decide +kernel
theorem dL_law_348 : decode cL_law 348 = .ok (.if_icmp .eq 1040, 3) := by decide +kernel
theorem dL_law_351 : decode cL_law 351 = .ok (.iconst 0, 1) := by decide +kernel
theorem dL_law_352 : decode cL_law 352 = .ok (.ireturn, 1) := by decide +kernel
theorem dL_law_353 : decode cL_law 353 = .ok (.iload 5, 2) := by decide +kernel
theorem dL_law_355 : decode cL_law 355 = .ok (.istore 13, 2) := by decide +kernel
theorem dL_law_357 : decode cL_law 357 = .ok (.iconst 1, 1) := by decide +kernel
theorem dL_law_358 : decode cL_law 358 = .ok (.iload 7, 2) := by decide +kernel
theorem dL_law_360 : decode cL_law 360 = .ok (.iconst 3, 1) := by decide +kernel
theorem dL_law_361 : decode cL_law 361 = .ok (.ishr, 1) := by decide +kernel
theorem dL_law_362 : decode cL_law 362 = .ok (.bipush 50, 2) := by decide +kernel
theorem dL_law_364 : decode cL_law 364 = .ok (.invokestatic 18, 3) := by decide +kernel
theorem dL_law_367 : decode cL_law 367 = .ok (.iadd, 1) := by decide +kernel
theorem dL_law_368 : decode cL_law 368 = .ok (.istore 5, 2) := by decide +kernel
theorem dL_law_370 : decode cL_law 370 = .ok (.aload_n 1, 1) := by decide +kernel
theorem dL_law_371 : decode cL_law 371 = .ok (.iload 5, 2) := by decide +kernel
theorem dL_law_373 : decode cL_law 373 = .ok (.invokevirtual 38, 3) := by decide +kernel
theorem dL_law_376 : decode cL_law 376 = .ok (.iload 13, 2) := by decide +kernel
theorem dL_law_378 : decode cL_law 378 = .ok (.if_icmp .eq 1010, 3) := by decide +kernel
theorem dL_law_381 : decode cL_law 381 = .ok (.iconst 0, 1) := by decide +kernel
theorem dL_law_382 : decode cL_law 382 = .ok (.ireturn, 1) := by decide +kernel
theorem dL_law_383 : decode cL_law 383 = .ok (.aload_n 1, 1) := by decide +kernel
theorem dL_law_384 : decode cL_law 384 = .ok (.iconst 2, 1) := by decide +kernel
theorem dL_law_385 : decode cL_law 385 = .ok (.invokevirtual 29, 3) := by decide +kernel
theorem dL_law_388 : decode cL_law 388 = .ok (.bipush 20, 2) := by decide +kernel
theorem dL_law_390 : decode cL_law 390 = .ok (.if_icmp .ne 6, 3) := by decide +kernel
theorem dL_law_393 : decode cL_law 393 = .ok (.goto 995, 3) := by decide +kernel
theorem dL_law_396 : decode cL_law 396 = .ok (.aload_n 1, 1) := by decide +kernel
theorem dL_law_397 : decode cL_law 397 = .ok (.iload 8, 2) := by decide +kernel
theorem dL_law_399 : decode cL_law 399 = .ok (.iconst 2, 1) := by decide +kernel
theorem dL_law_400 : decode cL_law 400 = .ok (.invokevirtual 32, 3) := by decide +kernel
theorem dL_law_403 : decode cL_law 403 = .ok (.istore 13, 2) := by decide +kernel
theorem dL_law_405 : decode cL_law 405 = .ok (.aload_n 1, 1) := by decide +kernel
theorem dL_law_406 : decode cL_law 406 = .ok (.iload 8, 2) := by decide +kernel
theorem dL_law_408 : decode cL_law 408 = .ok (.iconst 3, 1) := by decide +kernel
theorem dL_law_409 : decode cL_law 409 = .ok (.invokevirtual 32, 3) := by decide +kernel
theorem dL_law_412 : decode cL_law 412 = .ok (.istore 14, 2) := by decide +kernel
theorem dL_law_414 : decode cL_law 414 = .ok (.aload_n 1, 1) := by decide +kernel
theorem dL_law_415 : decode cL_law 415 = .ok (.iload 8, 2) := by decide +kernel
theorem dL_law_417 : decode cL_law 417 = .ok (.iconst 1, 1) := by decide +kernel
theorem dL_law_418 : decode cL_law 418 = .ok (.iload 7, 2) := by decide +kernel
theorem dL_law_420 : decode cL_law 420 = .ok (.iconst 2, 1) := by decide +kernel
theorem dL_law_421 : decode cL_law 421 = .ok (.ishr, 1) := by decide +kernel
theorem dL_law_422 : decode cL_law 422 = .ok (.sipush 200, 3) := by decide +kernel
theorem dL_law_425 : decode cL_law 425 = .ok (.invokestatic 18, 3) := by decide +kernel
theorem dL_law_428 : decode cL_law 428 = .ok (.iadd, 1) := by decide +kernel
theorem dL_law_429 : decode cL_law 429 = .ok (.bipush 100, 2) := by decide +kernel
theorem dL_law_431 : decode cL_law 431 = .ok (.iload 7, 2) := by decide +kernel
theorem dL_law_433 : decode cL_law 433 = .ok (.iconst 5, 1) := by decide +kernel
theorem dL_law_434 : decode cL_law 434 = .ok (.ishr, 1) := by decide +kernel
theorem dL_law_435 : decode cL_law 435 = .ok (.bipush 70, 2) := by decide +kernel
theorem dL_law_437 : decode cL_law 437 = .ok (.invokestatic 18, 3) := by decide +kernel
theorem dL_law_440 : decode cL_law 440 = .ok (.isub, 1) := by decide +kernel
theorem dL_law_441 : decode cL_law 441 = .ok (.invokevirtual 41, 3) := by decide +kernel
