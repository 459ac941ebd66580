theorem dX6_kilosOf_19 : decode cX6_kilosOf 19 = .ok (.iaload, 1) := by decide +kernel
theorem dX6_kilosOf_20 : decode cX6_kilosOf 20 = .ok (.ireturn, 1) := by decide +kernel
theorem dX6_many_0 : decode cX6_many 0 = .ok (.iload_n 1, 1) := by decide +kernel
theorem dX6_many_1 : decode cX6_many 1 = .ok (.tableswitch 159 0 15 #[79, 84, 89, 94, 99, 104, 109, 114, 119, 124, 129, 134, 139, 144, 149, 154], 79) := by decide +kernel
theorem dX6_many_80 : decode cX6_many 80 = .ok (.aload_n 0, 1) := by decide +kernel
theorem dX6_many_81 : decode cX6_many 81 = .ok (.getfield 61, 3) := by decide +kernel
theorem dX6_many_84 : decode cX6_many 84 = .ok (.ireturn, 1) := by decide +kernel
theorem dX6_many_85 : decode cX6_many 85 = .ok (.aload_n 0, 1) := by decide +kernel
theorem dX6_many_86 : decode cX6_many 86 = .ok (.getfield 48, 3) := by decide +kernel
theorem dX6_many_89 : decode cX6_many 89 = .ok (.ireturn, 1) := by decide +kernel
theorem dX6_many_90 : decode cX6_many 90 = .ok (.aload_n 0, 1) := by decide +kernel
theorem dX6_many_91 : decode cX6_many 91 = .ok (.getfield 52, 3) := by decide +kernel
theorem dX6_many_94 : decode cX6_many 94 = .ok (.ireturn, 1) := by decide +kernel
theorem dX6_many_95 : decode cX6_many 95 = .ok (.aload_n 0, 1) := by decide +kernel
theorem dX6_many_96 : decode cX6_many 96 = .ok (.getfield 55, 3) := by decide +kernel
theorem dX6_many_99 : decode cX6_many 99 = .ok (.ireturn, 1) := by decide +kernel
theorem dX6_many_100 : decode cX6_many 100 = .ok (.aload_n 0, 1) := by decide +kernel
theorem dX6_many_101 : decode cX6_many 101 = .ok (.getfield 58, 3) := by decide +kernel
theorem dX6_many_104 : decode cX6_many 104 = .ok (.ireturn, 1) := by decide +kernel
theorem dX6_many_105 : decode cX6_many 105 = .ok (.aload_n 0, 1) := by decide +kernel
theorem dX6_many_106 : decode cX6_many 106 = .ok (.invokevirtual 328, 3) := by decide +kernel
theorem dX6_many_109 : decode cX6_many 109 = .ok (.ireturn, 1) := by decide +kernel
theorem dX6_many_110 : decode cX6_many 110 = .ok (.aload_n 0, 1) := by decide +kernel
theorem dX6_many_111 : decode cX6_many 111 = .ok (.getfield 64, 3) := by decide +kernel
theorem dX6_many_114 : decode cX6_many 114 = .ok (.ireturn, 1) := by decide +kernel
theorem dX6_many_115 : decode cX6_many 115 = .ok (.aload_n 0, 1) := by decide +kernel
theorem dX6_many_116 : decode cX6_many 116 = .ok (.getfield 70, 3) := by decide +kernel
theorem dX6_many_119 : decode cX6_many 119 = .ok (.ireturn, 1) := by decide +kernel
theorem dX6_many_120 : decode cX6_many 120 = .ok (.aload_n 0, 1) := by decide +kernel
theorem dX6_many_121 : decode cX6_many 121 = .ok (.invokevirtual 331, 3) := by decide +kernel
theorem dX6_many_124 : decode cX6_many 124 = .ok (.ireturn, 1) := by decide +kernel
theorem dX6_many_125 : decode cX6_many 125 = .ok (.aload_n 0, 1) := by decide +kernel
theorem dX6_many_126 : decode cX6_many 126 = .ok (.invokevirtual 334, 3) := by decide +kernel
theorem dX6_many_129 : decode cX6_many 129 = .ok (.ireturn, 1) := by decide +kernel
theorem dX6_many_130 : decode cX6_many 130 = .ok (.aload_n 0, 1) := by decide +kernel
theorem dX6_many_131 : decode cX6_many 131 = .ok (.invokevirtual 337, 3) := by decide +kernel
theorem dX6_many_134 : decode cX6_many 134 = .ok (.ireturn, 1) := by decide +kernel
theorem dX6_many_135 : decode cX6_many 135 = .ok (.aload_n 0, 1) := by decide +kernel
theorem dX6_many_136 : decode cX6_many 136 = .ok (.invokevirtual 340, 3) := by decide +kernel
theorem dX6_many_139 : decode cX6_many 139 = .ok (.ireturn, 1) := by decide +kernel
theorem dX6_many_140 : decode cX6_many 140 = .ok (.aload_n 0, 1) := by decide +kernel
theorem dX6_many_141 : decode cX6_many 141 = .ok (.getfield 73, 3) := by decide +kernel
theorem dX6_many_144 : decode cX6_many 144 = .ok (.ireturn, 1) := by decide +kernel
theorem dX6_many_145 : decode cX6_many 145 = .ok (.aload_n 0, 1) := by decide +kernel
theorem dX6_many_146 : decode cX6_many 146 = .ok (.getfield 76, 3) := by decide +kernel
theorem dX6_many_149 : decode cX6_many 149 = .ok (.ireturn, 1) := by decide +kernel
theorem dX6_many_150 : decode cX6_many 150 = .ok (.aload_n 0, 1) := by decide +kernel
theorem dX6_many_151 : decode cX6_many 151 = .ok (.getfield 79, 3) := by decide +kernel
theorem dX6_many_154 : decode cX6_many 154 = .ok (.ireturn, 1) := by decide +kernel
theorem dX6_many_155 : decode cX6_many 155 = .ok (.aload_n 0, 1) := by decide +kernel
theorem dX6_many_156 : decode cX6_many 156 = .ok (.invokevirtual 343, 3) := by decide +kernel
theorem dX6_many_159 : decode cX6_many 159 = .ok (.ireturn, 1) := by decide +kernel
theorem dX6_many_160 : decode cX6_many 160 = .ok (.new 86, 3) := by decide +kernel
theorem dX6_many_163 : decode cX6_many 163 = .ok (.dup, 1) := by decide +kernel
theorem dX6_many_164 : decode cX6_many 164 = .ok (.ldc_w 346, 3) := by decide +kernel
theorem dX6_many_167 : decode cX6_many 167 = .ok (.invokespecial 90, 3) := by decide +kernel
theorem dX6_many_170 : decode cX6_many 170 = .ok (.athrow, 1) := by decide +kernel
theorem dX6_meanScore_0 : decode cX6_meanScore 0 = .ok (.iconst 0, 1) := by decide +kernel
theorem dX6_meanScore_1 : decode cX6_meanScore 1 = .ok (.istore_n 1, 1) := by decide +kernel
theorem dX6_meanScore_2 : decode cX6_meanScore 2 = .ok (.iconst 0, 1) := by decide +kernel
theorem dX6_meanScore_3 : decode cX6_meanScore 3 = .ok (.istore_n 2, 1) := by decide +kernel
theorem dX6_meanScore_4 : decode cX6_meanScore 4 = .ok (.iconst 0, 1) := by decide +kernel
theorem dX6_meanScore_5 : decode cX6_meanScore 5 = .ok (.istore_n 3, 1) := by decide +kernel
theorem dX6_meanScore_6 : decode cX6_meanScore 6 = .ok (.iload_n 3, 1) := by decide +kernel
theorem dX6_meanScore_7 : decode cX6_meanScore 7 = .ok (.aload_n 0, 1) := by decide +kernel
theorem dX6_meanScore_8 : decode cX6_meanScore 8 = .ok (.getfield 58, 3) := by decide +kernel
theorem dX6_meanScore_11 : decode cX6_meanScore 11 = .ok (.if_icmp .ge 65, 3) := by decide +kernel
theorem dX6_meanScore_14 : decode cX6_meanScore 14 = .ok (.aload_n 0, 1) := by decide +kernel
theorem dX6_meanScore_15 : decode cX6_meanScore 15 = .ok (.getfield 35, 3) := by decide +kernel
theorem dX6_meanScore_18 : decode cX6_meanScore 18 = .ok (.iload_n 3, 1) := by decide +kernel
theorem dX6_meanScore_19 : decode cX6_meanScore 19 = .ok (.aaload, 1) := by decide +kernel
theorem dX6_meanScore_20 : decode cX6_meanScore 20 = .ok (.getfield 231, 3) := by decide +kernel
theorem dX6_meanScore_23 : decode cX6_meanScore 23 = .ok (.ifCond .eq 47, 3) := by decide +kernel
theorem dX6_meanScore_26 : decode cX6_meanScore 26 = .ok (.iload_n 1, 1) := by decide +kernel
theorem dX6_meanScore_27 : decode cX6_meanScore 27 = .ok (.aload_n 0, 1) := by decide +kernel
theorem dX6_meanScore_28 : decode cX6_meanScore 28 = .ok (.getfield 35, 3) := by decide +kernel
theorem dX6_meanScore_31 : decode cX6_meanScore 31 = .ok (.iload_n 3, 1) := by decide +kernel
theorem dX6_meanScore_32 : decode cX6_meanScore 32 = .ok (.aaload, 1) := by decide +kernel
theorem dX6_meanScore_33 : decode cX6_meanScore 33 = .ok (.getfield 219, 3) := by decide +kernel
theorem dX6_meanScore_36 : decode cX6_meanScore 36 = .ok (.getfield 171, 3) := by decide +kernel
theorem dX6_meanScore_39 : decode cX6_meanScore 39 = .ok (.aload_n 0, 1) := by decide +kernel
theorem dX6_meanScore_40 : decode cX6_meanScore 40 = .ok (.getfield 35, 3) := by decide +kernel
theorem dX6_meanScore_43 : decode cX6_meanScore 43 = .ok (.iload_n 3, 1) := by decide +kernel
theorem dX6_meanScore_44 : decode cX6_meanScore 44 = .ok (.aaload, 1) := by decide +kernel
theorem dX6_meanScore_45 : decode cX6_meanScore 45 = .ok (.aload_n 0, 1) := by decide +kernel
theorem dX6_meanScore_46 : decode cX6_meanScore 46 = .ok (.getfield 11, 3) := by decide +kernel
theorem dX6_meanScore_49 : decode cX6_meanScore 49 = .ok (.invokevirtual 236, 3) := by decide +kernel
theorem dX6_meanScore_52 : decode cX6_meanScore 52 = .ok (.imul, 1) := by decide +kernel
theorem dX6_meanScore_53 : decode cX6_meanScore 53 = .ok (.iadd, 1) := by decide +kernel
theorem dX6_meanScore_54 : decode cX6_meanScore 54 = .ok (.istore_n 1, 1) := by decide +kernel
theorem dX6_meanScore_55 : decode cX6_meanScore 55 = .ok (.iload_n 2, 1) := by decide +kernel
theorem dX6_meanScore_56 : decode cX6_meanScore 56 = .ok (.aload_n 0, 1) := by decide +kernel
theorem dX6_meanScore_57 : decode cX6_meanScore 57 = .ok (.getfield 35, 3) := by decide +kernel
theorem dX6_meanScore_60 : decode cX6_meanScore 60 = .ok (.iload_n 3, 1) := by decide +kernel
theorem dX6_meanScore_61 : decode cX6_meanScore 61 = .ok (.aaload, 1) := by decide +kernel
theorem dX6_meanScore_62 : decode cX6_meanScore 62 = .ok (.getfield 219, 3) := by decide +kernel
theorem dX6_meanScore_65 : decode cX6_meanScore 65 = .ok (.getfield 171, 3) := by decide +kernel
theorem dX6_meanScore_68 : decode cX6_meanScore 68 = .ok (.iadd, 1) := by decide +kernel
theorem dX6_meanScore_69 : decode cX6_meanScore 69 = .ok (.istore_n 2, 1) := by decide +kernel
theorem dX6_meanScore_70 : decode cX6_meanScore 70 = .ok (.iinc 3 1, 3) := by decide +kernel
theorem dX6_meanScore_73 : decode cX6_meanScore 73 = .ok (.goto (-67), 3) := by decide +kernel
theorem dX6_meanScore_76 : decode cX6_meanScore 76 = .ok (.iload_n 2, 1) := by decide +kernel
theorem dX6_meanScore_77 : decode cX6_meanScore 77 = .ok (.ifCond .ne 7, 3) := by decide +kernel
theorem dX6_meanScore_80 : decode cX6_meanScore 80 = .ok (.dconst 0, 1) := by decide +kernel
theorem dX6_meanScore_81 : decode cX6_meanScore 81 = .ok (.goto 8, 3) := by decide +kernel
theorem dX6_meanScore_84 : decode cX6_meanScore 84 = .ok (.iload_n 1, 1) := by decide +kernel
theorem dX6_meanScore_85 : decode cX6_meanScore 85 = .ok (.i2d, 1) := by decide +kernel
theorem dX6_meanScore_86 : decode cX6_meanScore 86 = .ok (.iload_n 2, 1) := by decide +kernel
theorem dX6_meanScore_87 : decode cX6_meanScore 87 = .ok (.i2d, 1) := by decide +kernel
theorem dX6_meanScore_88 : decode cX6_meanScore 88 = .ok (.ddiv, 1) := by decide +kernel
theorem dX6_meanScore_89 : decode cX6_meanScore 89 = .ok (.dreturn, 1) := by decide +kernel
theorem dX6_readyIn_0 : decode cX6_readyIn 0 = .ok (.aload_n 0, 1) := by decide +kernel
theorem dX6_readyIn_1 : decode cX6_readyIn 1 = .ok (.iload_n 1, 1) := by decide +kernel
theorem dX6_readyIn_2 : decode cX6_readyIn 2 = .ok (.invokevirtual 145, 3) := by decide +kernel
theorem dX6_readyIn_5 : decode cX6_readyIn 5 = .ok (.astore_n 3, 1) := by decide +kernel
theorem dX6_readyIn_6 : decode cX6_readyIn 6 = .ok (.iload_n 2, 1) := by decide +kernel
theorem dX6_readyIn_7 : decode cX6_readyIn 7 = .ok (.invokestatic 348, 3) := by decide +kernel
theorem dX6_readyIn_10 : decode cX6_readyIn 10 = .ok (.aload_n 3, 1) := by decide +kernel
theorem dX6_readyIn_11 : decode cX6_readyIn 11 = .ok (.getfield 161, 3) := by decide +kernel
theorem dX6_readyIn_14 : decode cX6_readyIn 14 = .ok (.invokevirtual 176, 3) := by decide +kernel
theorem dX6_readyIn_17 : decode cX6_readyIn 17 = .ok (.ifCond .eq 5, 3) := by decide +kernel
theorem dX6_readyIn_20 : decode cX6_readyIn 20 = .ok (.iconst (-1), 1) := by decide +kernel
theorem dX6_readyIn_21 : decode cX6_readyIn 21 = .ok (.ireturn, 1) := by decide +kernel
theorem dX6_readyIn_22 : decode cX6_readyIn 22 = .ok (.iconst 0, 1) := by decide +kernel
theorem dX6_readyIn_23 : decode cX6_readyIn 23 = .ok (.istore 4, 2) := by decide +kernel
theorem dX6_readyIn_25 : decode cX6_readyIn 25 = .ok (.iload 4, 2) := by decide +kernel
theorem dX6_readyIn_27 : decode cX6_readyIn 27 = .ok (.sipush 200, 3) := by decide +kernel
theorem dX6_readyIn_30 : decode cX6_readyIn 30 = .ok (.if_icmp .gt 30, 3) := by decide +kernel
theorem dX6_readyIn_33 : decode cX6_readyIn 33 = .ok (.aload_n 3, 1) := by decide +kernel
theorem dX6_readyIn_34 : decode cX6_readyIn 34 = .ok (.getfield 181, 3) := by decide +kernel
theorem dX6_readyIn_37 : decode cX6_readyIn 37 = .ok (.iload 4, 2) := by decide +kernel
theorem dX6_readyIn_39 : decode cX6_readyIn 39 = .ok (.aload_n 3, 1) := by decide +kernel
theorem dX6_readyIn_40 : decode cX6_readyIn 40 = .ok (.iload_n 2, 1) := by decide +kernel
theorem dX6_readyIn_41 : decode cX6_readyIn 41 = .ok (.invokevirtual 351, 3) := by decide +kernel
theorem dX6_readyIn_44 : decode cX6_readyIn 44 = .ok (.imul, 1) := by decide +kernel
theorem dX6_readyIn_45 : decode cX6_readyIn 45 = .ok (.iadd, 1) := by decide +kernel
theorem dX6_readyIn_46 : decode cX6_readyIn 46 = .ok (.bipush 60, 2) := by decide +kernel
theorem dX6_readyIn_48 : decode cX6_readyIn 48 = .ok (.if_icmp .lt 6, 3) := by decide +kernel
theorem dX6_readyIn_51 : decode cX6_readyIn 51 = .ok (.iload 4, 2) := by decide +kernel
theorem dX6_readyIn_53 : decode cX6_readyIn 53 = .ok (.ireturn, 1) := by decide +kernel
theorem dX6_readyIn_54 : decode cX6_readyIn 54 = .ok (.iinc 4 1, 3) := by decide +kernel
theorem dX6_readyIn_57 : decode cX6_readyIn 57 = .ok (.goto (-32), 3) := by decide +kernel
theorem dX6_readyIn_60 : decode cX6_readyIn 60 = .ok (.iconst (-1), 1) := by decide +kernel
theorem dX6_readyIn_61 : decode cX6_readyIn 61 = .ok (.ireturn, 1) := by decide +kernel
theorem dX6_dryIn_0 : decode cX6_dryIn 0 = .ok (.aload_n 0, 1) := by decide +kernel
theorem dX6_dryIn_1 : decode cX6_dryIn 1 = .ok (.iload_n 1, 1) := by decide +kernel
theorem dX6_dryIn_2 : decode cX6_dryIn 2 = .ok (.invokevirtual 172, 3) := by decide +kernel
theorem dX6_dryIn_5 : decode cX6_dryIn 5 = .ok (.astore_n 3, 1) := by decide +kernel
theorem dX6_dryIn_6 : decode cX6_dryIn 6 = .ok (.iload_n 2, 1) := by decide +kernel
theorem dX6_dryIn_7 : decode cX6_dryIn 7 = .ok (.invokestatic 348, 3) := by decide +kernel
theorem dX6_dryIn_10 : decode cX6_dryIn 10 = .ok (.aload_n 3, 1) := by decide +kernel
theorem dX6_dryIn_11 : decode cX6_dryIn 11 = .ok (.getfield 190, 3) := by decide +kernel
theorem dX6_dryIn_14 : decode cX6_dryIn 14 = .ok (.invokevirtual 176, 3) := by decide +kernel
theorem dX6_dryIn_17 : decode cX6_dryIn 17 = .ok (.ifCond .eq 5, 3) := by decide +kernel
theorem dX6_dryIn_20 : decode cX6_dryIn 20 = .ok (.iconst (-1), 1) := by decide +kernel
theorem dX6_dryIn_21 : decode cX6_dryIn 21 = .ok (.ireturn, 1) := by decide +kernel
theorem dX6_dryIn_22 : decode cX6_dryIn 22 = .ok (.aload_n 3, 1) := by decide +kernel
theorem dX6_dryIn_23 : decode cX6_dryIn 23 = .ok (.getfield 300, 3) := by decide +kernel
theorem dX6_dryIn_26 : decode cX6_dryIn 26 = .ok (.istore 4, 2) := by decide +kernel
theorem dX6_dryIn_28 : decode cX6_dryIn 28 = .ok (.iconst 0, 1) := by decide +kernel
theorem dX6_dryIn_29 : decode cX6_dryIn 29 = .ok (.istore 5, 2) := by decide +kernel
theorem dX6_dryIn_31 : decode cX6_dryIn 31 = .ok (.iload 5, 2) := by decide +kernel
theorem dX6_dryIn_33 : decode cX6_dryIn 33 = .ok (.sipush 400, 3) := by decide +kernel
theorem dX6_dryIn_36 : decode cX6_dryIn 36 = .ok (.if_icmp .gt 40, 3) := by decide +kernel
theorem dX6_dryIn_39 : decode cX6_dryIn 39 = .ok (.iload 5, 2) := by decide +kernel
theorem dX6_dryIn_41 : decode cX6_dryIn 41 = .ok (.ifCond .le 19, 3) := by decide +kernel
theorem dX6_dryIn_44 : decode cX6_dryIn 44 = .ok (.aload_n 3, 1) := by decide +kernel
theorem dX6_dryIn_45 : decode cX6_dryIn 45 = .ok (.iload 4, 2) := by decide +kernel
theorem dX6_dryIn_47 : decode cX6_dryIn 47 = .ok (.aload_n 0, 1) := by decide +kernel
theorem dX6_dryIn_48 : decode cX6_dryIn 48 = .ok (.getfield 61, 3) := by decide +kernel
theorem dX6_dryIn_51 : decode cX6_dryIn 51 = .ok (.iload 5, 2) := by decide +kernel
theorem dX6_dryIn_53 : decode cX6_dryIn 53 = .ok (.iadd, 1) := by decide +kernel
theorem dX6_dryIn_54 : decode cX6_dryIn 54 = .ok (.iload_n 2, 1) := by decide +kernel
theorem dX6_dryIn_55 : decode cX6_dryIn 55 = .ok (.invokevirtual 354, 3) := by decide +kernel
theorem dX6_dryIn_58 : decode cX6_dryIn 58 = .ok (.istore 4, 2) := by decide +kernel
theorem dX6_dryIn_60 : decode cX6_dryIn 60 = .ok (.iload 4, 2) := by decide +kernel
theorem dX6_dryIn_62 : decode cX6_dryIn 62 = .ok (.bipush 125, 2) := by decide +kernel
theorem dX6_dryIn_64 : decode cX6_dryIn 64 = .ok (.if_icmp .gt 6, 3) := by decide +kernel
theorem dX6_dryIn_67 : decode cX6_dryIn 67 = .ok (.iload 5, 2) := by decide +kernel
theorem dX6_dryIn_69 : decode cX6_dryIn 69 = .ok (.ireturn, 1) := by decide +kernel
theorem dX6_dryIn_70 : decode cX6_dryIn 70 = .ok (.iinc 5 1, 3) := by decide +kernel
theorem dX6_dryIn_73 : decode cX6_dryIn 73 = .ok (.goto (-42), 3) := by decide +kernel
theorem dX6_dryIn_76 : decode cX6_dryIn 76 = .ok (.iconst (-1), 1) := by decide +kernel
theorem dX6_dryIn_77 : decode cX6_dryIn 77 = .ok (.ireturn, 1) := by decide +kernel
theorem dX6_bestBlend_0 : decode cX6_bestBlend 0 = .ok (.iconst (-1), 1) := by decide +kernel
theorem dX6_bestBlend_1 : decode cX6_bestBlend 1 = .ok (.istore_n 1, 1) := by decide +kernel
theorem dX6_bestBlend_2 : decode cX6_bestBlend 2 = .ok (.iconst (-1), 1) := by decide +kernel
theorem dX6_bestBlend_3 : decode cX6_bestBlend 3 = .ok (.istore_n 2, 1) := by decide +kernel
theorem dX6_bestBlend_4 : decode cX6_bestBlend 4 = .ok (.iconst 0, 1) := by decide +kernel
theorem dX6_bestBlend_5 : decode cX6_bestBlend 5 = .ok (.istore_n 3, 1) := by decide +kernel
theorem dX6_bestBlend_6 : decode cX6_bestBlend 6 = .ok (.iload_n 3, 1) := by decide +kernel
theorem dX6_bestBlend_7 : decode cX6_bestBlend 7 = .ok (.aload_n 0, 1) := by decide +kernel
theorem dX6_bestBlend_8 : decode cX6_bestBlend 8 = .ok (.getfield 58, 3) := by decide +kernel
theorem dX6_bestBlend_11 : decode cX6_bestBlend 11 = .ok (.if_icmp .ge 88, 3) := by decide +kernel
theorem dX6_bestBlend_14 : decode cX6_bestBlend 14 = .ok (.iload_n 3, 1) := by decide +kernel
theorem dX6_bestBlend_15 : decode cX6_bestBlend 15 = .ok (.iconst 1, 1) := by decide +kernel
theorem dX6_bestBlend_16 : decode cX6_bestBlend 16 = .ok (.iadd, 1) := by decide +kernel
theorem dX6_bestBlend_17 : decode cX6_bestBlend 17 = .ok (.istore 4, 2) := by decide +kernel
theorem dX6_bestBlend_19 : decode cX6_bestBlend 19 = .ok (.iload 4, 2) := by decide +kernel
theorem dX6_bestBlend_21 : decode cX6_bestBlend 21 = .ok (.aload_n 0, 1) := by decide +kernel
theorem dX6_bestBlend_22 : decode cX6_bestBlend 22 = .ok (.getfield 58, 3) := by decide +kernel
theorem dX6_bestBlend_25 : decode cX6_bestBlend 25 = .ok (.if_icmp .ge 68, 3) := by decide +kernel
theorem dX6_bestBlend_28 : decode cX6_bestBlend 28 = .ok (.aload_n 0, 1) := by decide +kernel
theorem dX6_bestBlend_29 : decode cX6_bestBlend 29 = .ok (.getfield 35, 3) := by decide +kernel
theorem dX6_bestBlend_32 : decode cX6_bestBlend 32 = .ok (.iload_n 3, 1) := by decide +kernel
theorem dX6_bestBlend_33 : decode cX6_bestBlend 33 = .ok (.aaload, 1) := by decide +kernel
theorem dX6_bestBlend_34 : decode cX6_bestBlend 34 = .ok (.aload_n 0, 1) := by decide +kernel
theorem dX6_bestBlend_35 : decode cX6_bestBlend 35 = .ok (.getfield 35, 3) := by decide +kernel
theorem dX6_bestBlend_38 : decode cX6_bestBlend 38 = .ok (.iload 4, 2) := by decide +kernel
theorem dX6_bestBlend_40 : decode cX6_bestBlend 40 = .ok (.aaload, 1) := by decide +kernel
theorem dX6_bestBlend_41 : decode cX6_bestBlend 41 = .ok (.invokevirtual 245, 3) := by decide +kernel
theorem dX6_bestBlend_44 : decode cX6_bestBlend 44 = .ok (.ifCond .eq 23, 3) := by decide +kernel
theorem dX6_bestBlend_47 : decode cX6_bestBlend 47 = .ok (.aload_n 0, 1) := by decide +kernel
theorem dX6_bestBlend_48 : decode cX6_bestBlend 48 = .ok (.aload_n 0, 1) := by decide +kernel
theorem dX6_bestBlend_49 : decode cX6_bestBlend 49 = .ok (.getfield 35, 3) := by decide +kernel
theorem dX6_bestBlend_52 : decode cX6_bestBlend 52 = .ok (.iload_n 3, 1) := by decide +kernel
theorem dX6_bestBlend_53 : decode cX6_bestBlend 53 = .ok (.aaload, 1) := by decide +kernel
theorem dX6_bestBlend_54 : decode cX6_bestBlend 54 = .ok (.aload_n 0, 1) := by decide +kernel
theorem dX6_bestBlend_55 : decode cX6_bestBlend 55 = .ok (.getfield 35, 3) := by decide +kernel
theorem dX6_bestBlend_58 : decode cX6_bestBlend 58 = .ok (.iload 4, 2) := by decide +kernel
theorem dX6_bestBlend_60 : decode cX6_bestBlend 60 = .ok (.aaload, 1) := by decide +kernel
theorem dX6_bestBlend_61 : decode cX6_bestBlend 61 = .ok (.invokevirtual 358, 3) := by decide +kernel
theorem dX6_bestBlend_64 : decode cX6_bestBlend 64 = .ok (.goto 4, 3) := by decide +kernel
theorem dX6_bestBlend_67 : decode cX6_bestBlend 67 = .ok (.iconst (-1), 1) := by decide +kernel
theorem dX6_bestBlend_68 : decode cX6_bestBlend 68 = .ok (.istore 5, 2) := by decide +kernel
theorem dX6_bestBlend_70 : decode cX6_bestBlend 70 = .ok (.iload 5, 2) := by decide +kernel
theorem dX6_bestBlend_72 : decode cX6_bestBlend 72 = .ok (.iload_n 2, 1) := by decide +kernel
theorem dX6_bestBlend_73 : decode cX6_bestBlend 73 = .ok (.if_icmp .le 14, 3) := by decide +kernel
theorem dX6_bestBlend_76 : decode cX6_bestBlend 76 = .ok (.iload 5, 2) := by decide +kernel
theorem dX6_bestBlend_78 : decode cX6_bestBlend 78 = .ok (.istore_n 2, 1) := by decide +kernel
theorem dX6_bestBlend_79 : decode cX6_bestBlend 79 = .ok (.bipush 20, 2) := by decide +kernel
theorem dX6_bestBlend_81 : decode cX6_bestBlend 81 = .ok (.iload_n 3, 1) := by decide +kernel
theorem dX6_bestBlend_82 : decode cX6_bestBlend 82 = .ok (.imul, 1) := by decide +kernel
theorem dX6_bestBlend_83 : decode cX6_bestBlend 83 = .ok (.iload 4, 2) := by decide +kernel
theorem dX6_bestBlend_85 : decode cX6_bestBlend 85 = .ok (.iadd, 1) := by decide +kernel
theorem dX6_bestBlend_86 : decode cX6_bestBlend 86 = .ok (.istore_n 1, 1) := by decide +kernel
theorem dX6_bestBlend_87 : decode cX6_bestBlend 87 = .ok (.iinc 4 1, 3) := by decide +kernel
theorem dX6_bestBlend_90 : decode cX6_bestBlend 90 = .ok (.goto (-71), 3) := by decide +kernel
theorem dX6_bestBlend_93 : decode cX6_bestBlend 93 = .ok (.iinc 3 1, 3) := by decide +kernel
theorem dX6_bestBlend_96 : decode cX6_bestBlend 96 = .ok (.goto (-90), 3) := by decide +kernel
theorem dX6_bestBlend_99 : decode cX6_bestBlend 99 = .ok (.iload_n 1, 1) := by decide +kernel
theorem dX6_bestBlend_100 : decode cX6_bestBlend 100 = .ok (.ireturn, 1) := by decide +kernel
theorem dX6_wouldShare_0 : decode cX6_wouldShare 0 = .ok (.aload_n 0, 1) := by decide +kernel
theorem dX6_wouldShare_1 : decode cX6_wouldShare 1 = .ok (.iload_n 1, 1) := by decide +kernel
theorem dX6_wouldShare_2 : decode cX6_wouldShare 2 = .ok (.invokevirtual 227, 3) := by decide +kernel
theorem dX6_wouldShare_5 : decode cX6_wouldShare 5 = .ok (.astore 5, 2) := by decide +kernel
theorem dX6_wouldShare_7 : decode cX6_wouldShare 7 = .ok (.aload_n 0, 1) := by decide +kernel
theorem dX6_wouldShare_8 : decode cX6_wouldShare 8 = .ok (.iload_n 2, 1) := by decide +kernel
theorem dX6_wouldShare_9 : decode cX6_wouldShare 9 = .ok (.invokevirtual 322, 3) := by decide +kernel
theorem dX6_wouldShare_12 : decode cX6_wouldShare 12 = .ok (.aload 5, 2) := by decide +kernel
theorem dX6_wouldShare_14 : decode cX6_wouldShare 14 = .ok (.iload_n 3, 1) := by decide +kernel
theorem dX6_wouldShare_15 : decode cX6_wouldShare 15 = .ok (.invokestatic 261, 3) := by decide +kernel
theorem dX6_wouldShare_18 : decode cX6_wouldShare 18 = .ok (.aload 5, 2) := by decide +kernel
theorem dX6_wouldShare_20 : decode cX6_wouldShare 20 = .ok (.iload_n 2, 1) := by decide +kernel
theorem dX6_wouldShare_21 : decode cX6_wouldShare 21 = .ok (.aload 5, 2) := by decide +kernel
theorem dX6_wouldShare_23 : decode cX6_wouldShare 23 = .ok (.iload_n 3, 1) := by decide +kernel
theorem dX6_wouldShare_24 : decode cX6_wouldShare 24 = .ok (.iload 4, 2) := by decide +kernel
theorem dX6_wouldShare_26 : decode cX6_wouldShare 26 = .ok (.invokevirtual 265, 3) := by decide +kernel
theorem dX6_wouldShare_29 : decode cX6_wouldShare 29 = .ok (.invokevirtual 269, 3) := by decide +kernel
theorem dX6_wouldShare_32 : decode cX6_wouldShare 32 = .ok (.ireturn, 1) := by decide +kernel
theorem dX6_digest_0 : decode cX6_digest 0 = .ok (.ldc2_w 362, 3) := by decide +kernel
theorem dX6_digest_3 : decode cX6_digest 3 = .ok (.lstore_n 1, 1) := by decide +kernel
theorem dX6_digest_4 : decode cX6_digest 4 = .ok (.iconst 0, 1) := by decide +kernel
theorem dX6_digest_5 : decode cX6_digest 5 = .ok (.istore_n 3, 1) := by decide +kernel
theorem dX6_digest_6 : decode cX6_digest 6 = .ok (.iload_n 3, 1) := by decide +kernel
theorem dX6_digest_7 : decode cX6_digest 7 = .ok (.bipush 15, 2) := by decide +kernel
theorem dX6_digest_9 : decode cX6_digest 9 = .ok (.if_icmp .gt 22, 3) := by decide +kernel
theorem dX6_digest_12 : decode cX6_digest 12 = .ok (.lload_n 1, 1) := by decide +kernel
theorem dX6_digest_13 : decode cX6_digest 13 = .ok (.ldc2_w 364, 3) := by decide +kernel
theorem dX6_digest_16 : decode cX6_digest 16 = .ok (.lmul, 1) := by decide +kernel
theorem dX6_digest_17 : decode cX6_digest 17 = .ok (.aload_n 0, 1) := by decide +kernel
theorem dX6_digest_18 : decode cX6_digest 18 = .ok (.iload_n 3, 1) := by decide +kernel
theorem dX6_digest_19 : decode cX6_digest 19 = .ok (.invokevirtual 366, 3) := by decide +kernel
theorem dX6_digest_22 : decode cX6_digest 22 = .ok (.i2l, 1) := by decide +kernel
theorem dX6_digest_23 : decode cX6_digest 23 = .ok (.ladd, 1) := by decide +kernel
theorem dX6_digest_24 : decode cX6_digest 24 = .ok (.lstore_n 1, 1) := by decide +kernel
theorem dX6_digest_25 : decode cX6_digest 25 = .ok (.iinc 3 1, 3) := by decide +kernel
theorem dX6_digest_28 : decode cX6_digest 28 = .ok (.goto (-22), 3) := by decide +kernel
theorem dX6_digest_31 : decode cX6_digest 31 = .ok (.aload_n 0, 1) := by decide +kernel
theorem dX6_digest_32 : decode cX6_digest 32 = .ok (.lload_n 1, 1) := by decide +kernel
theorem dX6_digest_33 : decode cX6_digest 33 = .ok (.invokevirtual 369, 3) := by decide +kernel
theorem dX6_digest_36 : decode cX6_digest 36 = .ok (.lstore_n 1, 1) := by decide +kernel
theorem dX6_digest_37 : decode cX6_digest 37 = .ok (.aload_n 0, 1) := by decide +kernel
theorem dX6_digest_38 : decode cX6_digest 38 = .ok (.lload_n 1, 1) := by decide +kernel
theorem dX6_digest_39 : decode cX6_digest 39 = .ok (.invokevirtual 373, 3) := by decide +kernel
theorem dX6_digest_42 : decode cX6_digest 42 = .ok (.lstore_n 1, 1) := by decide +kernel
theorem dX6_digest_43 : decode cX6_digest 43 = .ok (.aload_n 0, 1) := by decide +kernel
theorem dX6_digest_44 : decode cX6_digest 44 = .ok (.lload_n 1, 1) := by decide +kernel
theorem dX6_digest_45 : decode cX6_digest 45 = .ok (.invokevirtual 376, 3) := by decide +kernel
theorem dX6_digest_48 : decode cX6_digest 48 = .ok (.lstore_n 1, 1) := by decide +kernel
theorem dX6_digest_49 : decode cX6_digest 49 = .ok (.aload_n 0, 1) := by decide +kernel
theorem dX6_digest_50 : decode cX6_digest 50 = .ok (.lload_n 1, 1) := by decide +kernel
theorem dX6_digest_51 : decode cX6_digest 51 = .ok (.invokevirtual 379, 3) := by decide +kernel
theorem dX6_digest_54 : decode cX6_digest 54 = .ok (.lstore_n 1, 1) := by decide +kernel
theorem dX6_digest_55 : decode cX6_digest 55 = .ok (.aload_n 0, 1) := by decide +kernel
theorem dX6_digest_56 : decode cX6_digest 56 = .ok (.lload_n 1, 1) := by decide +kernel
theorem dX6_digest_57 : decode cX6_digest 57 = .ok (.invokevirtual 382, 3) := by decide +kernel
theorem dX6_digest_60 : decode cX6_digest 60 = .ok (.lstore_n 1, 1) := by decide +kernel
theorem dX6_digest_61 : decode cX6_digest 61 = .ok (.lload_n 1, 1) := by decide +kernel
theorem dX6_digest_62 : decode cX6_digest 62 = .ok (.ldc2_w 364, 3) := by decide +kernel
theorem dX6_digest_65 : decode cX6_digest 65 = .ok (.lmul, 1) := by decide +kernel
theorem dX6_digest_66 : decode cX6_digest 66 = .ok (.aload_n 0, 1) := by decide +kernel
theorem dX6_digest_67 : decode cX6_digest 67 = .ok (.invokevirtual 385, 3) := by decide +kernel
theorem dX6_digest_70 : decode cX6_digest 70 = .ok (.i2l, 1) := by decide +kernel
theorem dX6_digest_71 : decode cX6_digest 71 = .ok (.ladd, 1) := by decide +kernel
theorem dX6_digest_72 : decode cX6_digest 72 = .ok (.lreturn, 1) := by decide +kernel
theorem dX6_digestFarms_0 : decode cX6_digestFarms 0 = .ok (.lload_n 1, 1) := by decide +kernel
theorem dX6_digestFarms_1 : decode cX6_digestFarms 1 = .ok (.lstore_n 3, 1) := by decide +kernel
theorem dX6_digestFarms_2 : decode cX6_digestFarms 2 = .ok (.iconst 0, 1) := by decide +kernel
theorem dX6_digestFarms_3 : decode cX6_digestFarms 3 = .ok (.istore 5, 2) := by decide +kernel
theorem dX6_digestFarms_5 : decode cX6_digestFarms 5 = .ok (.iload 5, 2) := by decide +kernel
theorem dX6_digestFarms_7 : decode cX6_digestFarms 7 = .ok (.aload_n 0, 1) := by decide +kernel
theorem dX6_digestFarms_8 : decode cX6_digestFarms 8 = .ok (.getfield 48, 3) := by decide +kernel
theorem dX6_digestFarms_11 : decode cX6_digestFarms 11 = .ok (.if_icmp .ge 40, 3) := by decide +kernel
theorem dX6_digestFarms_14 : decode cX6_digestFarms 14 = .ok (.iconst 0, 1) := by decide +kernel
theorem dX6_digestFarms_15 : decode cX6_digestFarms 15 = .ok (.istore 6, 2) := by decide +kernel
theorem dX6_digestFarms_17 : decode cX6_digestFarms 17 = .ok (.iload 6, 2) := by decide +kernel
theorem dX6_digestFarms_19 : decode cX6_digestFarms 19 = .ok (.iconst 4, 1) := by decide +kernel
theorem dX6_digestFarms_20 : decode cX6_digestFarms 20 = .ok (.if_icmp .gt 25, 3) := by decide +kernel
theorem dX6_digestFarms_23 : decode cX6_digestFarms 23 = .ok (.lload_n 3, 1) := by decide +kernel
theorem dX6_digestFarms_24 : decode cX6_digestFarms 24 = .ok (.ldc2_w 364, 3) := by decide +kernel
theorem dX6_digestFarms_27 : decode cX6_digestFarms 27 = .ok (.lmul, 1) := by decide +kernel
theorem dX6_digestFarms_28 : decode cX6_digestFarms 28 = .ok (.aload_n 0, 1) := by decide +kernel
theorem dX6_digestFarms_29 : decode cX6_digestFarms 29 = .ok (.iload 5, 2) := by decide +kernel
theorem dX6_digestFarms_31 : decode cX6_digestFarms 31 = .ok (.iload 6, 2) := by decide +kernel
theorem dX6_digestFarms_33 : decode cX6_digestFarms 33 = .ok (.invokevirtual 388, 3) := by decide +kernel
theorem dX6_digestFarms_36 : decode cX6_digestFarms 36 = .ok (.i2l, 1) := by decide +kernel
theorem dX6_digestFarms_37 : decode cX6_digestFarms 37 = .ok (.ladd, 1) := by decide +kernel
theorem dX6_digestFarms_38 : decode cX6_digestFarms 38 = .ok (.lstore_n 3, 1) := by decide +kernel
theorem dX6_digestFarms_39 : decode cX6_digestFarms 39 = .ok (.iinc 6 1, 3) := by decide +kernel
theorem dX6_digestFarms_42 : decode cX6_digestFarms 42 = .ok (.goto (-25), 3) := by decide +kernel
theorem dX6_digestFarms_45 : decode cX6_digestFarms 45 = .ok (.iinc 5 1, 3) := by decide +kernel
theorem dX6_digestFarms_48 : decode cX6_digestFarms 48 = .ok (.goto (-43), 3) := by decide +kernel
theorem dX6_digestFarms_51 : decode cX6_digestFarms 51 = .ok (.lload_n 3, 1) := by decide +kernel
theorem dX6_digestFarms_52 : decode cX6_digestFarms 52 = .ok (.lreturn, 1) := by decide +kernel
theorem dX6_digestBaskets_0 : decode cX6_digestBaskets 0 = .ok (.lload_n 1, 1) := by decide +kernel
theorem dX6_digestBaskets_1 : decode cX6_digestBaskets 1 = .ok (.lstore_n 3, 1) := by decide +kernel
theorem dX6_digestBaskets_2 : decode cX6_digestBaskets 2 = .ok (.iconst 0, 1) := by decide +kernel
theorem dX6_digestBaskets_3 : decode cX6_digestBaskets 3 = .ok (.istore 5, 2) := by decide +kernel
theorem dX6_digestBaskets_5 : decode cX6_digestBaskets 5 = .ok (.iload 5, 2) := by decide +kernel
theorem dX6_digestBaskets_7 : decode cX6_digestBaskets 7 = .ok (.aload_n 0, 1) := by decide +kernel
theorem dX6_digestBaskets_8 : decode cX6_digestBaskets 8 = .ok (.getfield 52, 3) := by decide +kernel
theorem dX6_digestBaskets_11 : decode cX6_digestBaskets 11 = .ok (.if_icmp .ge 40, 3) := by decide +kernel
theorem dX6_digestBaskets_14 : decode cX6_digestBaskets 14 = .ok (.iconst 0, 1) := by decide +kernel
theorem dX6_digestBaskets_15 : decode cX6_digestBaskets 15 = .ok (.istore 6, 2) := by decide +kernel
theorem dX6_digestBaskets_17 : decode cX6_digestBaskets 17 = .ok (.iload 6, 2) := by decide +kernel
theorem dX6_digestBaskets_19 : decode cX6_digestBaskets 19 = .ok (.iconst 5, 1) := by decide +kernel
theorem dX6_digestBaskets_20 : decode cX6_digestBaskets 20 = .ok (.if_icmp .gt 25, 3) := by decide +kernel
theorem dX6_digestBaskets_23 : decode cX6_digestBaskets 23 = .ok (.lload_n 3, 1) := by decide +kernel
theorem dX6_digestBaskets_24 : decode cX6_digestBaskets 24 = .ok (.ldc2_w 364, 3) := by decide +kernel
theorem dX6_digestBaskets_27 : decode cX6_digestBaskets 27 = .ok (.lmul, 1) := by decide +kernel
theorem dX6_digestBaskets_28 : decode cX6_digestBaskets 28 = .ok (.aload_n 0, 1) := by decide +kernel
theorem dX6_digestBaskets_29 : decode cX6_digestBaskets 29 = .ok (.iload 5, 2) := by decide +kernel
theorem dX6_digestBaskets_31 : decode cX6_digestBaskets 31 = .ok (.iload 6, 2) := by decide +kernel
theorem dX6_digestBaskets_33 : decode cX6_digestBaskets 33 = .ok (.invokevirtual 391, 3) := by decide +kernel
theorem dX6_digestBaskets_36 : decode cX6_digestBaskets 36 = .ok (.i2l, 1) := by decide +kernel
theorem dX6_digestBaskets_37 : decode cX6_digestBaskets 37 = .ok (.ladd, 1) := by decide +kernel
theorem dX6_digestBaskets_38 : decode cX6_digestBaskets 38 = .ok (.lstore_n 3, 1) := by decide +kernel
theorem dX6_digestBaskets_39 : decode cX6_digestBaskets 39 = .ok (.iinc 6 1, 3) := by decide +kernel
theorem dX6_digestBaskets_42 : decode cX6_digestBaskets 42 = .ok (.goto (-25), 3) := by decide +kernel
theorem dX6_digestBaskets_45 : decode cX6_digestBaskets 45 = .ok (.iinc 5 1, 3) := by decide +kernel
theorem dX6_digestBaskets_48 : decode cX6_digestBaskets 48 = .ok (.goto (-43), 3) := by decide +kernel
theorem dX6_digestBaskets_51 : decode cX6_digestBaskets 51 = .ok (.lload_n 3, 1) := by decide +kernel
theorem dX6_digestBaskets_52 : decode cX6_digestBaskets 52 = .ok (.lreturn, 1) := by decide +kernel
theorem dX6_digestTanks_0 : decode cX6_digestTanks 0 = .ok (.lload_n 1, 1) := by decide +kernel
theorem dX6_digestTanks_1 : decode cX6_digestTanks 1 = .ok (.lstore_n 3, 1) := by decide +kernel
theorem dX6_digestTanks_2 : decode cX6_digestTanks 2 = .ok (.iconst 0, 1) := by decide +kernel
theorem dX6_digestTanks_3 : decode cX6_digestTanks 3 = .ok (.istore 5, 2) := by decide +kernel
theorem dX6_digestTanks_5 : decode cX6_digestTanks 5 = .ok (.iload 5, 2) := by decide +kernel
theorem dX6_digestTanks_7 : decode cX6_digestTanks 7 = .ok (.iconst 3, 1) := by decide +kernel
theorem dX6_digestTanks_8 : decode cX6_digestTanks 8 = .ok (.if_icmp .ge 56, 3) := by decide +kernel
theorem dX6_digestTanks_11 : decode cX6_digestTanks 11 = .ok (.iconst 0, 1) := by decide +kernel
theorem dX6_digestTanks_12 : decode cX6_digestTanks 12 = .ok (.istore 6, 2) := by decide +kernel
theorem dX6_digestTanks_14 : decode cX6_digestTanks 14 = .ok (.iload 6, 2) := by decide +kernel
theorem dX6_digestTanks_16 : decode cX6_digestTanks 16 = .ok (.iconst 4, 1) := by decide +kernel
theorem dX6_digestTanks_17 : decode cX6_digestTanks 17 = .ok (.if_icmp .gt 25, 3) := by decide +kernel
theorem dX6_digestTanks_20 : decode cX6_digestTanks 20 = .ok (.lload_n 3, 1) := by decide +kernel
theorem dX6_digestTanks_21 : decode cX6_digestTanks 21 = .ok (.ldc2_w 364, 3) := by decide +kernel
theorem dX6_digestTanks_24 : decode cX6_digestTanks 24 = .ok (.lmul, 1) := by decide +kernel
theorem dX6_digestTanks_25 : decode cX6_digestTanks 25 = .ok (.aload_n 0, 1) := by decide +kernel
theorem dX6_digestTanks_26 : decode cX6_digestTanks 26 = .ok (.iload 5, 2) := by decide +kernel
theorem dX6_digestTanks_28 : decode cX6_digestTanks 28 = .ok (.iload 6, 2) := by decide +kernel
theorem dX6_digestTanks_30 : decode cX6_digestTanks 30 = .ok (.invokevirtual 394, 3) := by decide +kernel
theorem dX6_digestTanks_33 : decode cX6_digestTanks 33 = .ok (.i2l, 1) := by decide +kernel
theorem dX6_digestTanks_34 : decode cX6_digestTanks 34 = .ok (.ladd, 1) := by decide +kernel
theorem dX6_digestTanks_35 : decode cX6_digestTanks 35 = .ok (.lstore_n 3, 1) := by decide +kernel
theorem dX6_digestTanks_36 : decode cX6_digestTanks 36 = .ok (.iinc 6 1, 3) := by decide +kernel
theorem dX6_digestTanks_39 : decode cX6_digestTanks 39 = .ok (.goto (-25), 3) := by decide +kernel
theorem dX6_digestTanks_42 : decode cX6_digestTanks 42 = .ok (.lload_n 3, 1) := by decide +kernel
theorem dX6_digestTanks_43 : decode cX6_digestTanks 43 = .ok (.ldc2_w 364, 3) := by decide +kernel
theorem dX6_digestTanks_46 : decode cX6_digestTanks 46 = .ok (.lmul, 1) := by decide +kernel
theorem dX6_digestTanks_47 : decode cX6_digestTanks 47 = .ok (.aload_n 0, 1) := by decide +kernel
theorem dX6_digestTanks_48 : decode cX6_digestTanks 48 = .ok (.iload 5, 2) := by decide +kernel
theorem dX6_digestTanks_50 : decode cX6_digestTanks 50 = .ok (.bipush 20, 2) := by decide +kernel
theorem dX6_digestTanks_52 : decode cX6_digestTanks 52 = .ok (.invokevirtual 397, 3) := by decide +kernel
theorem dX6_digestTanks_55 : decode cX6_digestTanks 55 = .ok (.i2l, 1) := by decide +kernel
theorem dX6_digestTanks_56 : decode cX6_digestTanks 56 = .ok (.ladd, 1) := by decide +kernel
theorem dX6_digestTanks_57 : decode cX6_digestTanks 57 = .ok (.lstore_n 3, 1) := by decide +kernel
theorem dX6_digestTanks_58 : decode cX6_digestTanks 58 = .ok (.iinc 5 1, 3) := by decide +kernel
theorem dX6_digestTanks_61 : decode cX6_digestTanks 61 = .ok (.goto (-56), 3) := by decide +kernel
theorem dX6_digestTanks_64 : decode cX6_digestTanks 64 = .ok (.lload_n 3, 1) := by decide +kernel
theorem dX6_digestTanks_65 : decode cX6_digestTanks 65 = .ok (.lreturn, 1) := by decide +kernel
theorem dX6_digestBeds_0 : decode cX6_digestBeds 0 = .ok (.lload_n 1, 1) := by decide +kernel
theorem dX6_digestBeds_1 : decode cX6_digestBeds 1 = .ok (.lstore_n 3, 1) := by decide +kernel
theorem dX6_digestBeds_2 : decode cX6_digestBeds 2 = .ok (.iconst 0, 1) := by decide +kernel
theorem dX6_digestBeds_3 : decode cX6_digestBeds 3 = .ok (.istore 5, 2) := by decide +kernel
theorem dX6_digestBeds_5 : decode cX6_digestBeds 5 = .ok (.iload 5, 2) := by decide +kernel
theorem dX6_digestBeds_7 : decode cX6_digestBeds 7 = .ok (.aload_n 0, 1) := by decide +kernel
theorem dX6_digestBeds_8 : decode cX6_digestBeds 8 = .ok (.getfield 55, 3) := by decide +kernel
theorem dX6_digestBeds_11 : decode cX6_digestBeds 11 = .ok (.if_icmp .ge 57, 3) := by decide +kernel
theorem dX6_digestBeds_14 : decode cX6_digestBeds 14 = .ok (.iconst 0, 1) := by decide +kernel
theorem dX6_digestBeds_15 : decode cX6_digestBeds 15 = .ok (.istore 6, 2) := by decide +kernel
theorem dX6_digestBeds_17 : decode cX6_digestBeds 17 = .ok (.iload 6, 2) := by decide +kernel
theorem dX6_digestBeds_19 : decode cX6_digestBeds 19 = .ok (.bipush 7, 2) := by decide +kernel
theorem dX6_digestBeds_21 : decode cX6_digestBeds 21 = .ok (.if_icmp .gt 25, 3) := by decide +kernel
theorem dX6_digestBeds_24 : decode cX6_digestBeds 24 = .ok (.lload_n 3, 1) := by decide +kernel
theorem dX6_digestBeds_25 : decode cX6_digestBeds 25 = .ok (.ldc2_w 364, 3) := by decide +kernel
theorem dX6_digestBeds_28 : decode cX6_digestBeds 28 = .ok (.lmul, 1) := by decide +kernel
theorem dX6_digestBeds_29 : decode cX6_digestBeds 29 = .ok (.aload_n 0, 1) := by decide +kernel
theorem dX6_digestBeds_30 : decode cX6_digestBeds 30 = .ok (.iload 5, 2) := by decide +kernel
theorem dX6_digestBeds_32 : decode cX6_digestBeds 32 = .ok (.iload 6, 2) := by decide +kernel
theorem dX6_digestBeds_34 : decode cX6_digestBeds 34 = .ok (.invokevirtual 400, 3) := by decide +kernel
theorem dX6_digestBeds_37 : decode cX6_digestBeds 37 = .ok (.i2l, 1) := by decide +kernel
theorem dX6_digestBeds_38 : decode cX6_digestBeds 38 = .ok (.ladd, 1) := by decide +kernel
theorem dX6_digestBeds_39 : decode cX6_digestBeds 39 = .ok (.lstore_n 3, 1) := by decide +kernel
theorem dX6_digestBeds_40 : decode cX6_digestBeds 40 = .ok (.iinc 6 1, 3) := by decide +kernel
theorem dX6_digestBeds_43 : decode cX6_digestBeds 43 = .ok (.goto (-26), 3) := by decide +kernel
theorem dX6_digestBeds_46 : decode cX6_digestBeds 46 = .ok (.lload_n 3, 1) := by decide +kernel
theorem dX6_digestBeds_47 : decode cX6_digestBeds 47 = .ok (.ldc2_w 364, 3) := by decide +kernel
theorem dX6_digestBeds_50 : decode cX6_digestBeds 50 = .ok (.lmul, 1) := by decide +kernel
theorem dX6_digestBeds_51 : decode cX6_digestBeds 51 = .ok (.aload_n 0, 1) := by decide +kernel
theorem dX6_digestBeds_52 : decode cX6_digestBeds 52 = .ok (.iload 5, 2) := by decide +kernel
theorem dX6_digestBeds_54 : decode cX6_digestBeds 54 = .ok (.bipush 25, 2) := by decide +kernel
theorem dX6_digestBeds_56 : decode cX6_digestBeds 56 = .ok (.invokevirtual 403, 3) := by decide +kernel
theorem dX6_digestBeds_59 : decode cX6_digestBeds 59 = .ok (.i2l, 1) := by decide +kernel
theorem dX6_digestBeds_60 : decode cX6_digestBeds 60 = .ok (.ladd, 1) := by decide +kernel
theorem dX6_digestBeds_61 : decode cX6_digestBeds 61 = .ok (.lstore_n 3, 1) := by decide +kernel
theorem dX6_digestBeds_62 : decode cX6_digestBeds 62 = .ok (.iinc 5 1, 3) := by decide +kernel
theorem dX6_digestBeds_65 : decode cX6_digestBeds 65 = .ok (.goto (-60), 3) := by decide +kernel
theorem dX6_digestBeds_68 : decode cX6_digestBeds 68 = .ok (.lload_n 3, 1) := by decide +kernel
theorem dX6_digestBeds_69 : decode cX6_digestBeds 69 = .ok (.lreturn, 1) := by decide +kernel
theorem dX6_digestLots_0 : decode cX6_digestLots 0 = .ok (.lload_n 1, 1) := by decide +kernel
theorem dX6_digestLots_1 : decode cX6_digestLots 1 = .ok (.lstore_n 3, 1) := by decide +kernel
theorem dX6_digestLots_2 : decode cX6_digestLots 2 = .ok (.iconst 0, 1) := by decide +kernel
theorem dX6_digestLots_3 : decode cX6_digestLots 3 = .ok (.istore 5, 2) := by decide +kernel
theorem dX6_digestLots_5 : decode cX6_digestLots 5 = .ok (.iload 5, 2) := by decide +kernel
theorem dX6_digestLots_7 : decode cX6_digestLots 7 = .ok (.aload_n 0, 1) := by decide +kernel
theorem dX6_digestLots_8 : decode cX6_digestLots 8 = .ok (.getfield 58, 3) := by decide +kernel
theorem dX6_digestLots_11 : decode cX6_digestLots 11 = .ok (.if_icmp .ge 75, 3) := by decide +kernel
theorem dX6_digestLots_14 : decode cX6_digestLots 14 = .ok (.iconst 0, 1) := by decide +kernel
theorem dX6_digestLots_15 : decode cX6_digestLots 15 = .ok (.istore 6, 2) := by decide +kernel
theorem dX6_digestLots_17 : decode cX6_digestLots 17 = .ok (.iload 6, 2) := by decide +kernel
theorem dX6_digestLots_19 : decode cX6_digestLots 19 = .ok (.bipush 11, 2) := by decide +kernel
theorem dX6_digestLots_21 : decode cX6_digestLots 21 = .ok (.if_icmp .gt 25, 3) := by decide +kernel
theorem dX6_digestLots_24 : decode cX6_digestLots 24 = .ok (.lload_n 3, 1) := by decide +kernel
theorem dX6_digestLots_25 : decode cX6_digestLots 25 = .ok (.ldc2_w 364, 3) := by decide +kernel
theorem dX6_digestLots_28 : decode cX6_digestLots 28 = .ok (.lmul, 1) := by decide +kernel
theorem dX6_digestLots_29 : decode cX6_digestLots 29 = .ok (.aload_n 0, 1) := by decide +kernel
theorem dX6_digestLots_30 : decode cX6_digestLots 30 = .ok (.iload 5, 2) := by decide +kernel
theorem dX6_digestLots_32 : decode cX6_digestLots 32 = .ok (.iload 6, 2) := by decide +kernel
theorem dX6_digestLots_34 : decode cX6_digestLots 34 = .ok (.invokevirtual 406, 3) := by decide +kernel
theorem dX6_digestLots_37 : decode cX6_digestLots 37 = .ok (.i2l, 1) := by decide +kernel
theorem dX6_digestLots_38 : decode cX6_digestLots 38 = .ok (.ladd, 1) := by decide +kernel
theorem dX6_digestLots_39 : decode cX6_digestLots 39 = .ok (.lstore_n 3, 1) := by decide +kernel
theorem dX6_digestLots_40 : decode cX6_digestLots 40 = .ok (.iinc 6 1, 3) := by decide +kernel
theorem dX6_digestLots_43 : decode cX6_digestLots 43 = .ok (.goto (-26), 3) := by decide +kernel
theorem dX6_digestLots_46 : decode cX6_digestLots 46 = .ok (.iconst 0, 1) := by decide +kernel
theorem dX6_digestLots_47 : decode cX6_digestLots 47 = .ok (.istore 6, 2) := by decide +kernel
theorem dX6_digestLots_49 : decode cX6_digestLots 49 = .ok (.iload 6, 2) := by decide +kernel
theorem dX6_digestLots_51 : decode cX6_digestLots 51 = .ok (.aload_n 0, 1) := by decide +kernel
theorem dX6_digestLots_52 : decode cX6_digestLots 52 = .ok (.getfield 48, 3) := by decide +kernel
theorem dX6_digestLots_55 : decode cX6_digestLots 55 = .ok (.if_icmp .ge 25, 3) := by decide +kernel
theorem dX6_digestLots_58 : decode cX6_digestLots 58 = .ok (.lload_n 3, 1) := by decide +kernel
theorem dX6_digestLots_59 : decode cX6_digestLots 59 = .ok (.ldc2_w 364, 3) := by decide +kernel
theorem dX6_digestLots_62 : decode cX6_digestLots 62 = .ok (.lmul, 1) := by decide +kernel
theorem dX6_digestLots_63 : decode cX6_digestLots 63 = .ok (.aload_n 0, 1) := by decide +kernel
theorem dX6_digestLots_64 : decode cX6_digestLots 64 = .ok (.iload 5, 2) := by decide +kernel
theorem dX6_digestLots_66 : decode cX6_digestLots 66 = .ok (.iload 6, 2) := by decide +kernel
theorem dX6_digestLots_68 : decode cX6_digestLots 68 = .ok (.invokevirtual 409, 3) := by decide +kernel
theorem dX6_digestLots_71 : decode cX6_digestLots 71 = .ok (.i2l, 1) := by decide +kernel
theorem dX6_digestLots_72 : decode cX6_digestLots 72 = .ok (.ladd, 1) := by decide +kernel
theorem dX6_digestLots_73 : decode cX6_digestLots 73 = .ok (.lstore_n 3, 1) := by decide +kernel
theorem dX6_digestLots_74 : decode cX6_digestLots 74 = .ok (.iinc 6 1, 3) := by decide +kernel
theorem dX6_digestLots_77 : decode cX6_digestLots 77 = .ok (.goto (-28), 3) := by decide +kernel
theorem dX6_digestLots_80 : decode cX6_digestLots 80 = .ok (.iinc 5 1, 3) := by decide +kernel
theorem dX6_digestLots_83 : decode cX6_digestLots 83 = .ok (.goto (-78), 3) := by decide +kernel
theorem dX6_digestLots_86 : decode cX6_digestLots 86 = .ok (.lload_n 3, 1) := by decide +kernel
theorem dX6_digestLots_87 : decode cX6_digestLots 87 = .ok (.lreturn, 1) := by decide +kernel
theorem dX6_needFarm_0 : decode cX6_needFarm 0 = .ok (.iload_n 1, 1) := by decide +kernel
theorem dX6_needFarm_1 : decode cX6_needFarm 1 = .ok (.ifCond .lt 11, 3) := by decide +kernel
theorem dX6_needFarm_4 : decode cX6_needFarm 4 = .ok (.iload_n 1, 1) := by decide +kernel
theorem dX6_needFarm_5 : decode cX6_needFarm 5 = .ok (.aload_n 0, 1) := by decide +kernel
theorem dX6_needFarm_6 : decode cX6_needFarm 6 = .ok (.getfield 48, 3) := by decide +kernel
theorem dX6_needFarm_9 : decode cX6_needFarm 9 = .ok (.if_icmp .lt 14, 3) := by decide +kernel
theorem dX6_needFarm_12 : decode cX6_needFarm 12 = .ok (.new 412, 3) := by decide +kernel
theorem dX6_needFarm_15 : decode cX6_needFarm 15 = .ok (.dup, 1) := by decide +kernel
theorem dX6_needFarm_16 : decode cX6_needFarm 16 = .ok (.ldc_w 414, 3) := by decide +kernel
theorem dX6_needFarm_19 : decode cX6_needFarm 19 = .ok (.invokespecial 416, 3) := by decide +kernel
theorem dX6_needFarm_22 : decode cX6_needFarm 22 = .ok (.athrow, 1) := by decide +kernel
theorem dX6_needFarm_23 : decode cX6_needFarm 23 = .ok (.return_, 1) := by decide +kernel
theorem dX6_needTaster_0 : decode cX6_needTaster 0 = .ok (.iload_n 0, 1) := by decide +kernel
theorem dX6_needTaster_1 : decode cX6_needTaster 1 = .ok (.ifCond .lt 8, 3) := by decide +kernel
theorem dX6_needTaster_4 : decode cX6_needTaster 4 = .ok (.iload_n 0, 1) := by decide +kernel
theorem dX6_needTaster_5 : decode cX6_needTaster 5 = .ok (.iconst 3, 1) := by decide +kernel
theorem dX6_needTaster_6 : decode cX6_needTaster 6 = .ok (.if_icmp .lt 14, 3) := by decide +kernel
theorem dX6_needTaster_9 : decode cX6_needTaster 9 = .ok (.new 412, 3) := by decide +kernel
theorem dX6_needTaster_12 : decode cX6_needTaster 12 = .ok (.dup, 1) := by decide +kernel
theorem dX6_needTaster_13 : decode cX6_needTaster 13 = .ok (.ldc_w 417, 3) := by decide +kernel
theorem dX6_needTaster_16 : decode cX6_needTaster 16 = .ok (.invokespecial 416, 3) := by decide +kernel
theorem dX6_needTaster_19 : decode cX6_needTaster 19 = .ok (.athrow, 1) := by decide +kernel
theorem dX6_needTaster_20 : decode cX6_needTaster 20 = .ok (.return_, 1) := by decide +kernel
theorem dX6_needWarmth_0 : decode cX6_needWarmth 0 = .ok (.iload_n 0, 1) := by decide +kernel
theorem dX6_needWarmth_1 : decode cX6_needWarmth 1 = .ok (.ifCond .lt 9, 3) := by decide +kernel
theorem dX6_needWarmth_4 : decode cX6_needWarmth 4 = .ok (.iload_n 0, 1) := by decide +kernel
theorem dX6_needWarmth_5 : decode cX6_needWarmth 5 = .ok (.bipush 40, 2) := by decide +kernel
theorem dX6_needWarmth_7 : decode cX6_needWarmth 7 = .ok (.if_icmp .le 14, 3) := by decide +kernel
theorem dX6_needWarmth_10 : decode cX6_needWarmth 10 = .ok (.new 86, 3) := by decide +kernel
theorem dX6_needWarmth_13 : decode cX6_needWarmth 13 = .ok (.dup, 1) := by decide +kernel
theorem dX6_needWarmth_14 : decode cX6_needWarmth 14 = .ok (.ldc_w 419, 3) := by decide +kernel
theorem dX6_needWarmth_17 : decode cX6_needWarmth 17 = .ok (.invokespecial 90, 3) := by decide +kernel
theorem dX6_needWarmth_20 : decode cX6_needWarmth 20 = .ok (.athrow, 1) := by decide +kernel
theorem dX6_needWarmth_21 : decode cX6_needWarmth 21 = .ok (.return_, 1) := by decide +kernel
theorem dX6_needSale_0 : decode cX6_needSale 0 = .ok (.iload_n 1, 1) := by decide +kernel
theorem dX6_needSale_1 : decode cX6_needSale 1 = .ok (.iconst 1, 1) := by decide +kernel
theorem dX6_needSale_2 : decode cX6_needSale 2 = .ok (.if_icmp .lt 10, 3) := by decide +kernel
theorem dX6_needSale_5 : decode cX6_needSale 5 = .ok (.iload_n 1, 1) := by decide +kernel
theorem dX6_needSale_6 : decode cX6_needSale 6 = .ok (.sipush 200, 3) := by decide +kernel
theorem dX6_needSale_9 : decode cX6_needSale 9 = .ok (.if_icmp .le 14, 3) := by decide +kernel
theorem dX6_needSale_12 : decode cX6_needSale 12 = .ok (.new 86, 3) := by decide +kernel
theorem dX6_needSale_15 : decode cX6_needSale 15 = .ok (.dup, 1) := by decide +kernel
theorem dX6_needSale_16 : decode cX6_needSale 16 = .ok (.ldc_w 421, 3) := by decide +kernel
theorem dX6_needSale_19 : decode cX6_needSale 19 = .ok (.invokespecial 90, 3) := by decide +kernel
theorem dX6_needSale_22 : decode cX6_needSale 22 = .ok (.athrow, 1) := by decide +kernel
theorem dX6_needSale_23 : decode cX6_needSale 23 = .ok (.aload_n 0, 1) := by decide +kernel
theorem dX6_needSale_24 : decode cX6_needSale 24 = .ok (.getfield 231, 3) := by decide +kernel
theorem dX6_needSale_27 : decode cX6_needSale 27 = .ok (.ifCond .eq 11, 3) := by decide +kernel
theorem dX6_needSale_30 : decode cX6_needSale 30 = .ok (.aload_n 0, 1) := by decide +kernel
theorem dX6_needSale_31 : decode cX6_needSale 31 = .ok (.invokevirtual 314, 3) := by decide +kernel
theorem dX6_needSale_34 : decode cX6_needSale 34 = .ok (.iconst (-1), 1) := by decide +kernel
theorem dX6_needSale_35 : decode cX6_needSale 35 = .ok (.if_icmp .ne 14, 3) := by decide +kernel
theorem dX6_needSale_38 : decode cX6_needSale 38 = .ok (.new 93, 3) := by decide +kernel
theorem dX6_needSale_41 : decode cX6_needSale 41 = .ok (.dup, 1) := by decide +kernel
theorem dX6_needSale_42 : decode cX6_needSale 42 = .ok (.ldc_w 423, 3) := by decide +kernel
theorem dX6_needSale_45 : decode cX6_needSale 45 = .ok (.invokespecial 97, 3) := by decide +kernel
theorem dX6_needSale_48 : decode cX6_needSale 48 = .ok (.athrow, 1) := by decide +kernel
theorem dX6_needSale_49 : decode cX6_needSale 49 = .ok (.return_, 1) := by decide +kernel
theorem dX6_farmAt_0 : decode cX6_farmAt 0 = .ok (.aload_n 0, 1) := by decide +kernel
theorem dX6_farmAt_1 : decode cX6_farmAt 1 = .ok (.iload_n 1, 1) := by decide +kernel
theorem dX6_farmAt_2 : decode cX6_farmAt 2 = .ok (.invokevirtual 322, 3) := by decide +kernel
theorem dX6_farmAt_5 : decode cX6_farmAt 5 = .ok (.aload_n 0, 1) := by decide +kernel
theorem dX6_farmAt_6 : decode cX6_farmAt 6 = .ok (.getfield 11, 3) := by decide +kernel
theorem dX6_farmAt_9 : decode cX6_farmAt 9 = .ok (.iload_n 1, 1) := by decide +kernel
theorem dX6_farmAt_10 : decode cX6_farmAt 10 = .ok (.aaload, 1) := by decide +kernel
theorem dX6_farmAt_11 : decode cX6_farmAt 11 = .ok (.areturn, 1) := by decide +kernel
theorem dX6_basketAt_0 : decode cX6_basketAt 0 = .ok (.iload_n 1, 1) := by decide +kernel
theorem dX6_basketAt_1 : decode cX6_basketAt 1 = .ok (.ifCond .lt 11, 3) := by decide +kernel
theorem dX6_basketAt_4 : decode cX6_basketAt 4 = .ok (.iload_n 1, 1) := by decide +kernel
theorem dX6_basketAt_5 : decode cX6_basketAt 5 = .ok (.aload_n 0, 1) := by decide +kernel
theorem dX6_basketAt_6 : decode cX6_basketAt 6 = .ok (.getfield 52, 3) := by decide +kernel
theorem dX6_basketAt_9 : decode cX6_basketAt 9 = .ok (.if_icmp .lt 14, 3) := by decide +kernel
theorem dX6_basketAt_12 : decode cX6_basketAt 12 = .ok (.new 412, 3) := by decide +kernel
theorem dX6_basketAt_15 : decode cX6_basketAt 15 = .ok (.dup, 1) := by decide +kernel
theorem dX6_basketAt_16 : decode cX6_basketAt 16 = .ok (.ldc_w 425, 3) := by decide +kernel
theorem dX6_basketAt_19 : decode cX6_basketAt 19 = .ok (.invokespecial 416, 3) := by decide +kernel
theorem dX6_basketAt_22 : decode cX6_basketAt 22 = .ok (.athrow, 1) := by decide +kernel
theorem dX6_basketAt_23 : decode cX6_basketAt 23 = .ok (.aload_n 0, 1) := by decide +kernel
theorem dX6_basketAt_24 : decode cX6_basketAt 24 = .ok (.getfield 17, 3) := by decide +kernel
theorem dX6_basketAt_27 : decode cX6_basketAt 27 = .ok (.iload_n 1, 1) := by decide +kernel
theorem dX6_basketAt_28 : decode cX6_basketAt 28 = .ok (.aaload, 1) := by decide +kernel
theorem dX6_basketAt_29 : decode cX6_basketAt 29 = .ok (.areturn, 1) := by decide +kernel
theorem dX6_tankAt_0 : decode cX6_tankAt 0 = .ok (.iload_n 1, 1) := by decide +kernel
theorem dX6_tankAt_1 : decode cX6_tankAt 1 = .ok (.ifCond .lt 8, 3) := by decide +kernel
theorem dX6_tankAt_4 : decode cX6_tankAt 4 = .ok (.iload_n 1, 1) := by decide +kernel
theorem dX6_tankAt_5 : decode cX6_tankAt 5 = .ok (.iconst 3, 1) := by decide +kernel
theorem dX6_tankAt_6 : decode cX6_tankAt 6 = .ok (.if_icmp .lt 14, 3) := by decide +kernel
theorem dX6_tankAt_9 : decode cX6_tankAt 9 = .ok (.new 412, 3) := by decide +kernel
theorem dX6_tankAt_12 : decode cX6_tankAt 12 = .ok (.dup, 1) := by decide +kernel
theorem dX6_tankAt_13 : decode cX6_tankAt 13 = .ok (.ldc_w 427, 3) := by decide +kernel
theorem dX6_tankAt_16 : decode cX6_tankAt 16 = .ok (.invokespecial 416, 3) := by decide +kernel
theorem dX6_tankAt_19 : decode cX6_tankAt 19 = .ok (.athrow, 1) := by decide +kernel
theorem dX6_tankAt_20 : decode cX6_tankAt 20 = .ok (.aload_n 0, 1) := by decide +kernel
theorem dX6_tankAt_21 : decode cX6_tankAt 21 = .ok (.getfield 23, 3) := by decide +kernel
theorem dX6_tankAt_24 : decode cX6_tankAt 24 = .ok (.iload_n 1, 1) := by decide +kernel
theorem dX6_tankAt_25 : decode cX6_tankAt 25 = .ok (.aaload, 1) := by decide +kernel
theorem dX6_tankAt_26 : decode cX6_tankAt 26 = .ok (.areturn, 1) := by decide +kernel
theorem dX6_bedAt_0 : decode cX6_bedAt 0 = .ok (.iload_n 1, 1) := by decide +kernel
theorem dX6_bedAt_1 : decode cX6_bedAt 1 = .ok (.ifCond .lt 11, 3) := by decide +kernel
theorem dX6_bedAt_4 : decode cX6_bedAt 4 = .ok (.iload_n 1, 1) := by decide +kernel
theorem dX6_bedAt_5 : decode cX6_bedAt 5 = .ok (.aload_n 0, 1) := by decide +kernel
theorem dX6_bedAt_6 : decode cX6_bedAt 6 = .ok (.getfield 55, 3) := by decide +kernel
theorem dX6_bedAt_9 : decode cX6_bedAt 9 = .ok (.if_icmp .lt 14, 3) := by decide +kernel
theorem dX6_bedAt_12 : decode cX6_bedAt 12 = .ok (.new 412, 3) := by decide +kernel
theorem dX6_bedAt_15 : decode cX6_bedAt 15 = .ok (.dup, 1) := by decide +kernel
theorem dX6_bedAt_16 : decode cX6_bedAt 16 = .ok (.ldc_w 429, 3) := by decide +kernel
theorem dX6_bedAt_19 : decode cX6_bedAt 19 = .ok (.invokespecial 416, 3) := by decide +kernel
theorem dX6_bedAt_22 : decode cX6_bedAt 22 = .ok (.athrow, 1) := by decide +kernel
theorem dX6_bedAt_23 : decode cX6_bedAt 23 = .ok (.aload_n 0, 1) := by decide +kernel
theorem dX6_bedAt_24 : decode cX6_bedAt 24 = .ok (.getfield 29, 3) := by decide +kernel
theorem dX6_bedAt_27 : decode cX6_bedAt 27 = .ok (.iload_n 1, 1) := by decide +kernel
theorem dX6_bedAt_28 : decode cX6_bedAt 28 = .ok (.aaload, 1) := by decide +kernel
theorem dX6_bedAt_29 : decode cX6_bedAt 29 = .ok (.areturn, 1) := by decide +kernel
theorem dX6_lotAt_0 : decode cX6_lotAt 0 = .ok (.iload_n 1, 1) := by decide +kernel
theorem dX6_lotAt_1 : decode cX6_lotAt 1 = .ok (.ifCond .lt 11, 3) := by decide +kernel
theorem dX6_lotAt_4 : decode cX6_lotAt 4 = .ok (.iload_n 1, 1) := by decide +kernel
theorem dX6_lotAt_5 : decode cX6_lotAt 5 = .ok (.aload_n 0, 1) := by decide +kernel
theorem dX6_lotAt_6 : decode cX6_lotAt 6 = .ok (.getfield 58, 3) := by decide +kernel
theorem dX6_lotAt_9 : decode cX6_lotAt 9 = .ok (.if_icmp .lt 14, 3) := by decide +kernel
theorem dX6_lotAt_12 : decode cX6_lotAt 12 = .ok (.new 412, 3) := by decide +kernel
theorem dX6_lotAt_15 : decode cX6_lotAt 15 = .ok (.dup, 1) := by decide +kernel
theorem dX6_lotAt_16 : decode cX6_lotAt 16 = .ok (.ldc_w 431, 3) := by decide +kernel
theorem dX6_lotAt_19 : decode cX6_lotAt 19 = .ok (.invokespecial 416, 3) := by decide +kernel
theorem dX6_lotAt_22 : decode cX6_lotAt 22 = .ok (.athrow, 1) := by decide +kernel
theorem dX6_lotAt_23 : decode cX6_lotAt 23 = .ok (.aload_n 0, 1) := by decide +kernel
theorem dX6_lotAt_24 : decode cX6_lotAt 24 = .ok (.getfield 35, 3) := by decide +kernel
theorem dX6_lotAt_27 : decode cX6_lotAt 27 = .ok (.iload_n 1, 1) := by decide +kernel
theorem dX6_lotAt_28 : decode cX6_lotAt 28 = .ok (.aaload, 1) := by decide +kernel
theorem dX6_lotAt_29 : decode cX6_lotAt 29 = .ok (.areturn, 1) := by decide +kernel
theorem dX6_passOneHour_0 : decode cX6_passOneHour 0 = .ok (.aload_n 0, 1) := by decide +kernel
theorem dX6_passOneHour_1 : decode cX6_passOneHour 1 = .ok (.dup, 1) := by decide +kernel
theorem dX6_passOneHour_2 : decode cX6_passOneHour 2 = .ok (.getfield 61, 3) := by decide +kernel
theorem dX6_passOneHour_5 : decode cX6_passOneHour 5 = .ok (.iconst 1, 1) := by decide +kernel
theorem dX6_passOneHour_6 : decode cX6_passOneHour 6 = .ok (.iadd, 1) := by decide +kernel
theorem dX6_passOneHour_7 : decode cX6_passOneHour 7 = .ok (.putfield 61, 3) := by decide +kernel
theorem dX6_passOneHour_10 : decode cX6_passOneHour 10 = .ok (.aload_n 0, 1) := by decide +kernel
theorem dX6_passOneHour_11 : decode cX6_passOneHour 11 = .ok (.invokevirtual 433, 3) := by decide +kernel
theorem dX6_passOneHour_14 : decode cX6_passOneHour 14 = .ok (.istore_n 3, 1) := by decide +kernel
theorem dX6_passOneHour_15 : decode cX6_passOneHour 15 = .ok (.iconst 0, 1) := by decide +kernel
theorem dX6_passOneHour_16 : decode cX6_passOneHour 16 = .ok (.istore 4, 2) := by decide +kernel
theorem dX6_passOneHour_18 : decode cX6_passOneHour 18 = .ok (.iload 4, 2) := by decide +kernel
theorem dX6_passOneHour_20 : decode cX6_passOneHour 20 = .ok (.iconst 3, 1) := by decide +kernel
theorem dX6_passOneHour_21 : decode cX6_passOneHour 21 = .ok (.if_icmp .ge 20, 3) := by decide +kernel
theorem dX6_passOneHour_24 : decode cX6_passOneHour 24 = .ok (.aload_n 0, 1) := by decide +kernel
theorem dX6_passOneHour_25 : decode cX6_passOneHour 25 = .ok (.getfield 23, 3) := by decide +kernel
theorem dX6_passOneHour_28 : decode cX6_passOneHour 28 = .ok (.iload 4, 2) := by decide +kernel
theorem dX6_passOneHour_30 : decode cX6_passOneHour 30 = .ok (.aaload, 1) := by decide +kernel
theorem dX6_passOneHour_31 : decode cX6_passOneHour 31 = .ok (.iload_n 1, 1) := by decide +kernel
theorem dX6_passOneHour_32 : decode cX6_passOneHour 32 = .ok (.invokevirtual 436, 3) := by decide +kernel
theorem dX6_passOneHour_35 : decode cX6_passOneHour 35 = .ok (.iinc 4 1, 3) := by decide +kernel
theorem dX6_passOneHour_38 : decode cX6_passOneHour 38 = .ok (.goto (-20), 3) := by decide +kernel
theorem dX6_passOneHour_41 : decode cX6_passOneHour 41 = .ok (.iconst 0, 1) := by decide +kernel
theorem dX6_passOneHour_42 : decode cX6_passOneHour 42 = .ok (.istore 4, 2) := by decide +kernel
theorem dX6_passOneHour_44 : decode cX6_passOneHour 44 = .ok (.iload 4, 2) := by decide +kernel
theorem dX6_passOneHour_46 : decode cX6_passOneHour 46 = .ok (.aload_n 0, 1) := by decide +kernel
theorem dX6_passOneHour_47 : decode cX6_passOneHour 47 = .ok (.getfield 55, 3) := by decide +kernel
theorem dX6_passOneHour_50 : decode cX6_passOneHour 50 = .ok (.if_icmp .ge 25, 3) := by decide +kernel
theorem dX6_passOneHour_53 : decode cX6_passOneHour 53 = .ok (.aload_n 0, 1) := by decide +kernel
theorem dX6_passOneHour_54 : decode cX6_passOneHour 54 = .ok (.getfield 29, 3) := by decide +kernel
theorem dX6_passOneHour_57 : decode cX6_passOneHour 57 = .ok (.iload 4, 2) := by decide +kernel
theorem dX6_passOneHour_59 : decode cX6_passOneHour 59 = .ok (.aaload, 1) := by decide +kernel
theorem dX6_passOneHour_60 : decode cX6_passOneHour 60 = .ok (.aload_n 0, 1) := by decide +kernel
theorem dX6_passOneHour_61 : decode cX6_passOneHour 61 = .ok (.getfield 61, 3) := by decide +kernel
theorem dX6_passOneHour_64 : decode cX6_passOneHour 64 = .ok (.iload_n 1, 1) := by decide +kernel
theorem dX6_passOneHour_65 : decode cX6_passOneHour 65 = .ok (.iload_n 2, 1) := by decide +kernel
theorem dX6_passOneHour_66 : decode cX6_passOneHour 66 = .ok (.invokevirtual 439, 3) := by decide +kernel
theorem dX6_passOneHour_69 : decode cX6_passOneHour 69 = .ok (.iinc 4 1, 3) := by decide +kernel
theorem dX6_passOneHour_72 : decode cX6_passOneHour 72 = .ok (.goto (-28), 3) := by decide +kernel
theorem dX6_passOneHour_75 : decode cX6_passOneHour 75 = .ok (.aload_n 0, 1) := by decide +kernel
theorem dX6_passOneHour_76 : decode cX6_passOneHour 76 = .ok (.getfield 61, 3) := by decide +kernel
theorem dX6_passOneHour_79 : decode cX6_passOneHour 79 = .ok (.bipush 24, 2) := by decide +kernel
theorem dX6_passOneHour_81 : decode cX6_passOneHour 81 = .ok (.irem, 1) := by decide +kernel
theorem dX6_passOneHour_82 : decode cX6_passOneHour 82 = .ok (.ifCond .ne 7, 3) := by decide +kernel
theorem dX6_passOneHour_85 : decode cX6_passOneHour 85 = .ok (.aload_n 0, 1) := by decide +kernel
theorem dX6_passOneHour_86 : decode cX6_passOneHour 86 = .ok (.invokevirtual 441, 3) := by decide +kernel
theorem dX6_passOneHour_89 : decode cX6_passOneHour 89 = .ok (.iload_n 3, 1) := by decide +kernel
theorem dX6_passOneHour_90 : decode cX6_passOneHour 90 = .ok (.ireturn, 1) := by decide +kernel
theorem dX6_ageBaskets_0 : decode cX6_ageBaskets 0 = .ok (.iconst 0, 1) := by decide +kernel
theorem dX6_ageBaskets_1 : decode cX6_ageBaskets 1 = .ok (.istore_n 1, 1) := by decide +kernel
theorem dX6_ageBaskets_2 : decode cX6_ageBaskets 2 = .ok (.iconst 0, 1) := by decide +kernel
theorem dX6_ageBaskets_3 : decode cX6_ageBaskets 3 = .ok (.istore_n 2, 1) := by decide +kernel
theorem dX6_ageBaskets_4 : decode cX6_ageBaskets 4 = .ok (.iload_n 2, 1) := by decide +kernel
theorem dX6_ageBaskets_5 : decode cX6_ageBaskets 5 = .ok (.aload_n 0, 1) := by decide +kernel
theorem dX6_ageBaskets_6 : decode cX6_ageBaskets 6 = .ok (.getfield 52, 3) := by decide +kernel
theorem dX6_ageBaskets_9 : decode cX6_ageBaskets 9 = .ok (.if_icmp .ge 42, 3) := by decide +kernel
theorem dX6_ageBaskets_12 : decode cX6_ageBaskets 12 = .ok (.aload_n 0, 1) := by decide +kernel
theorem dX6_ageBaskets_13 : decode cX6_ageBaskets 13 = .ok (.getfield 17, 3) := by decide +kernel
theorem dX6_ageBaskets_16 : decode cX6_ageBaskets 16 = .ok (.iload_n 2, 1) := by decide +kernel
theorem dX6_ageBaskets_17 : decode cX6_ageBaskets 17 = .ok (.aaload, 1) := by decide +kernel
theorem dX6_ageBaskets_18 : decode cX6_ageBaskets 18 = .ok (.invokevirtual 444, 3) := by decide +kernel
theorem dX6_ageBaskets_21 : decode cX6_ageBaskets 21 = .ok (.ifCond .eq 24, 3) := by decide +kernel
theorem dX6_ageBaskets_24 : decode cX6_ageBaskets 24 = .ok (.aload_n 0, 1) := by decide +kernel
theorem dX6_ageBaskets_25 : decode cX6_ageBaskets 25 = .ok (.dup, 1) := by decide +kernel
theorem dX6_ageBaskets_26 : decode cX6_ageBaskets 26 = .ok (.getfield 76, 3) := by decide +kernel
theorem dX6_ageBaskets_29 : decode cX6_ageBaskets 29 = .ok (.aload_n 0, 1) := by decide +kernel
theorem dX6_ageBaskets_30 : decode cX6_ageBaskets 30 = .ok (.getfield 17, 3) := by decide +kernel
theorem dX6_ageBaskets_33 : decode cX6_ageBaskets 33 = .ok (.iload_n 2, 1) := by decide +kernel
theorem dX6_ageBaskets_34 : decode cX6_ageBaskets 34 = .ok (.aaload, 1) := by decide +kernel
theorem dX6_ageBaskets_35 : decode cX6_ageBaskets 35 = .ok (.getfield 149, 3) := by decide +kernel
theorem dX6_ageBaskets_38 : decode cX6_ageBaskets 38 = .ok (.iadd, 1) := by decide +kernel
theorem dX6_ageBaskets_39 : decode cX6_ageBaskets 39 = .ok (.putfield 76, 3) := by decide +kernel
theorem dX6_ageBaskets_42 : decode cX6_ageBaskets 42 = .ok (.iinc 1 1, 3) := by decide +kernel
theorem dX6_ageBaskets_45 : decode cX6_ageBaskets 45 = .ok (.iinc 2 1, 3) := by decide +kernel
theorem dX6_ageBaskets_48 : decode cX6_ageBaskets 48 = .ok (.goto (-44), 3) := by decide +kernel
theorem dX6_ageBaskets_51 : decode cX6_ageBaskets 51 = .ok (.iload_n 1, 1) := by decide +kernel
theorem dX6_ageBaskets_52 : decode cX6_ageBaskets 52 = .ok (.ireturn, 1) := by decide +kernel
theorem dX6_ageLots_0 : decode cX6_ageLots 0 = .ok (.iconst 0, 1) := by decide +kernel
theorem dX6_ageLots_1 : decode cX6_ageLots 1 = .ok (.istore_n 1, 1) := by decide +kernel
theorem dX6_ageLots_2 : decode cX6_ageLots 2 = .ok (.iload_n 1, 1) := by decide +kernel
theorem dX6_ageLots_3 : decode cX6_ageLots 3 = .ok (.aload_n 0, 1) := by decide +kernel
theorem dX6_ageLots_4 : decode cX6_ageLots 4 = .ok (.getfield 58, 3) := by decide +kernel
theorem dX6_ageLots_7 : decode cX6_ageLots 7 = .ok (.if_icmp .ge 36, 3) := by decide +kernel
theorem dX6_ageLots_10 : decode cX6_ageLots 10 = .ok (.aload_n 0, 1) := by decide +kernel
theorem dX6_ageLots_11 : decode cX6_ageLots 11 = .ok (.getfield 35, 3) := by decide +kernel
theorem dX6_ageLots_14 : decode cX6_ageLots 14 = .ok (.iload_n 1, 1) := by decide +kernel
theorem dX6_ageLots_15 : decode cX6_ageLots 15 = .ok (.aaload, 1) := by decide +kernel
theorem dX6_ageLots_16 : decode cX6_ageLots 16 = .ok (.getfield 231, 3) := by decide +kernel
theorem dX6_ageLots_19 : decode cX6_ageLots 19 = .ok (.ifCond .eq 18, 3) := by decide +kernel
theorem dX6_ageLots_22 : decode cX6_ageLots 22 = .ok (.aload_n 0, 1) := by decide +kernel
theorem dX6_ageLots_23 : decode cX6_ageLots 23 = .ok (.getfield 35, 3) := by decide +kernel
theorem dX6_ageLots_26 : decode cX6_ageLots 26 = .ok (.iload_n 1, 1) := by decide +kernel
theorem dX6_ageLots_27 : decode cX6_ageLots 27 = .ok (.aaload, 1) := by decide +kernel
theorem dX6_ageLots_28 : decode cX6_ageLots 28 = .ok (.dup, 1) := by decide +kernel
theorem dX6_ageLots_29 : decode cX6_ageLots 29 = .ok (.getfield 313, 3) := by decide +kernel
theorem dX6_ageLots_32 : decode cX6_ageLots 32 = .ok (.iconst 1, 1) := by decide +kernel
theorem dX6_ageLots_33 : decode cX6_ageLots 33 = .ok (.iadd, 1) := by decide +kernel
theorem dX6_ageLots_34 : decode cX6_ageLots 34 = .ok (.putfield 313, 3) := by decide +kernel
theorem dX6_ageLots_37 : decode cX6_ageLots 37 = .ok (.iinc 1 1, 3) := by decide +kernel
theorem dX6_ageLots_40 : decode cX6_ageLots 40 = .ok (.goto (-38), 3) := by decide +kernel
theorem dX6_ageLots_43 : decode cX6_ageLots 43 = .ok (.return_, 1) := by decide +kernel
theorem dX6_lotsInStore_0 : decode cX6_lotsInStore 0 = .ok (.iconst 0, 1) := by decide +kernel
theorem dX6_lotsInStore_1 : decode cX6_lotsInStore 1 = .ok (.istore_n 1, 1) := by decide +kernel
theorem dX6_lotsInStore_2 : decode cX6_lotsInStore 2 = .ok (.iconst 0, 1) := by decide +kernel
theorem dX6_lotsInStore_3 : decode cX6_lotsInStore 3 = .ok (.istore_n 2, 1) := by decide +kernel
theorem dX6_lotsInStore_4 : decode cX6_lotsInStore 4 = .ok (.iload_n 2, 1) := by decide +kernel
theorem dX6_lotsInStore_5 : decode cX6_lotsInStore 5 = .ok (.aload_n 0, 1) := by decide +kernel
theorem dX6_lotsInStore_6 : decode cX6_lotsInStore 6 = .ok (.getfield 58, 3) := by decide +kernel
theorem dX6_lotsInStore_9 : decode cX6_lotsInStore 9 = .ok (.if_icmp .ge 24, 3) := by decide +kernel
theorem dX6_lotsInStore_12 : decode cX6_lotsInStore 12 = .ok (.aload_n 0, 1) := by decide +kernel
theorem dX6_lotsInStore_13 : decode cX6_lotsInStore 13 = .ok (.getfield 35, 3) := by decide +kernel
theorem dX6_lotsInStore_16 : decode cX6_lotsInStore 16 = .ok (.iload_n 2, 1) := by decide +kernel
theorem dX6_lotsInStore_17 : decode cX6_lotsInStore 17 = .ok (.aaload, 1) := by decide +kernel
theorem dX6_lotsInStore_18 : decode cX6_lotsInStore 18 = .ok (.getfield 231, 3) := by decide +kernel
theorem dX6_lotsInStore_21 : decode cX6_lotsInStore 21 = .ok (.ifCond .eq 6, 3) := by decide +kernel
theorem dX6_lotsInStore_24 : decode cX6_lotsInStore 24 = .ok (.iinc 1 1, 3) := by decide +kernel
theorem dX6_lotsInStore_27 : decode cX6_lotsInStore 27 = .ok (.iinc 2 1, 3) := by decide +kernel
theorem dX6_lotsInStore_30 : decode cX6_lotsInStore 30 = .ok (.goto (-26), 3) := by decide +kernel
theorem dX6_lotsInStore_33 : decode cX6_lotsInStore 33 = .ok (.iload_n 1, 1) := by decide +kernel
theorem dX6_lotsInStore_34 : decode cX6_lotsInStore 34 = .ok (.ireturn, 1) := by decide +kernel
theorem dX6_allKilosInStore_0 : decode cX6_allKilosInStore 0 = .ok (.iconst 0, 1) := by decide +kernel
theorem dX6_allKilosInStore_1 : decode cX6_allKilosInStore 1 = .ok (.istore_n 1, 1) := by decide +kernel
theorem dX6_allKilosInStore_2 : decode cX6_allKilosInStore 2 = .ok (.iconst 0, 1) := by decide +kernel
theorem dX6_allKilosInStore_3 : decode cX6_allKilosInStore 3 = .ok (.istore_n 2, 1) := by decide +kernel
theorem dX6_allKilosInStore_4 : decode cX6_allKilosInStore 4 = .ok (.iload_n 2, 1) := by decide +kernel
theorem dX6_allKilosInStore_5 : decode cX6_allKilosInStore 5 = .ok (.aload_n 0, 1) := by decide +kernel
theorem dX6_allKilosInStore_6 : decode cX6_allKilosInStore 6 = .ok (.getfield 58, 3) := by decide +kernel
theorem dX6_allKilosInStore_9 : decode cX6_allKilosInStore 9 = .ok (.if_icmp .ge 36, 3) := by decide +kernel
theorem dX6_allKilosInStore_12 : decode cX6_allKilosInStore 12 = .ok (.aload_n 0, 1) := by decide +kernel
theorem dX6_allKilosInStore_13 : decode cX6_allKilosInStore 13 = .ok (.getfield 35, 3) := by decide +kernel
theorem dX6_allKilosInStore_16 : decode cX6_allKilosInStore 16 = .ok (.iload_n 2, 1) := by decide +kernel
theorem dX6_allKilosInStore_17 : decode cX6_allKilosInStore 17 = .ok (.aaload, 1) := by decide +kernel
theorem dX6_allKilosInStore_18 : decode cX6_allKilosInStore 18 = .ok (.getfield 231, 3) := by decide +kernel
theorem dX6_allKilosInStore_21 : decode cX6_allKilosInStore 21 = .ok (.ifCond .eq 18, 3) := by decide +kernel
theorem dX6_allKilosInStore_24 : decode cX6_allKilosInStore 24 = .ok (.iload_n 1, 1) := by decide +kernel
theorem dX6_allKilosInStore_25 : decode cX6_allKilosInStore 25 = .ok (.aload_n 0, 1) := by decide +kernel
theorem dX6_allKilosInStore_26 : decode cX6_allKilosInStore 26 = .ok (.getfield 35, 3) := by decide +kernel
theorem dX6_allKilosInStore_29 : decode cX6_allKilosInStore 29 = .ok (.iload_n 2, 1) := by decide +kernel
theorem dX6_allKilosInStore_30 : decode cX6_allKilosInStore 30 = .ok (.aaload, 1) := by decide +kernel
theorem dX6_allKilosInStore_31 : decode cX6_allKilosInStore 31 = .ok (.getfield 219, 3) := by decide +kernel
theorem dX6_allKilosInStore_34 : decode cX6_allKilosInStore 34 = .ok (.getfield 171, 3) := by decide +kernel
theorem dX6_allKilosInStore_37 : decode cX6_allKilosInStore 37 = .ok (.iadd, 1) := by decide +kernel
theorem dX6_allKilosInStore_38 : decode cX6_allKilosInStore 38 = .ok (.istore_n 1, 1) := by decide +kernel
theorem dX6_allKilosInStore_39 : decode cX6_allKilosInStore 39 = .ok (.iinc 2 1, 3) := by decide +kernel
theorem dX6_allKilosInStore_42 : decode cX6_allKilosInStore 42 = .ok (.goto (-38), 3) := by decide +kernel
theorem dX6_allKilosInStore_45 : decode cX6_allKilosInStore 45 = .ok (.iload_n 1, 1) := by decide +kernel
theorem dX6_allKilosInStore_46 : decode cX6_allKilosInStore 46 = .ok (.ireturn, 1) := by decide +kernel
theorem dX6_kilosInStore_0 : decode cX6_kilosInStore 0 = .ok (.iconst 0, 1) := by decide +kernel
theorem dX6_kilosInStore_1 : decode cX6_kilosInStore 1 = .ok (.istore_n 2, 1) := by decide +kernel
theorem dX6_kilosInStore_2 : decode cX6_kilosInStore 2 = .ok (.iconst 0, 1) := by decide +kernel
theorem dX6_kilosInStore_3 : decode cX6_kilosInStore 3 = .ok (.istore_n 3, 1) := by decide +kernel
theorem dX6_kilosInStore_4 : decode cX6_kilosInStore 4 = .ok (.iload_n 3, 1) := by decide +kernel
theorem dX6_kilosInStore_5 : decode cX6_kilosInStore 5 = .ok (.aload_n 0, 1) := by decide +kernel
theorem dX6_kilosInStore_6 : decode cX6_kilosInStore 6 = .ok (.getfield 58, 3) := by decide +kernel
theorem dX6_kilosInStore_9 : decode cX6_kilosInStore 9 = .ok (.if_icmp .ge 38, 3) := by decide +kernel
theorem dX6_kilosInStore_12 : decode cX6_kilosInStore 12 = .ok (.aload_n 0, 1) := by decide +kernel
theorem dX6_kilosInStore_13 : decode cX6_kilosInStore 13 = .ok (.getfield 35, 3) := by decide +kernel
theorem dX6_kilosInStore_16 : decode cX6_kilosInStore 16 = .ok (.iload_n 3, 1) := by decide +kernel
theorem dX6_kilosInStore_17 : decode cX6_kilosInStore 17 = .ok (.aaload, 1) := by decide +kernel
theorem dX6_kilosInStore_18 : decode cX6_kilosInStore 18 = .ok (.getfield 231, 3) := by decide +kernel
theorem dX6_kilosInStore_21 : decode cX6_kilosInStore 21 = .ok (.ifCond .eq 20, 3) := by decide +kernel
theorem dX6_kilosInStore_24 : decode cX6_kilosInStore 24 = .ok (.iload_n 2, 1) := by decide +kernel
theorem dX6_kilosInStore_25 : decode cX6_kilosInStore 25 = .ok (.aload_n 0, 1) := by decide +kernel
theorem dX6_kilosInStore_26 : decode cX6_kilosInStore 26 = .ok (.getfield 35, 3) := by decide +kernel
theorem dX6_kilosInStore_29 : decode cX6_kilosInStore 29 = .ok (.iload_n 3, 1) := by decide +kernel
theorem dX6_kilosInStore_30 : decode cX6_kilosInStore 30 = .ok (.aaload, 1) := by decide +kernel
theorem dX6_kilosInStore_31 : decode cX6_kilosInStore 31 = .ok (.getfield 219, 3) := by decide +kernel
theorem dX6_kilosInStore_34 : decode cX6_kilosInStore 34 = .ok (.getfield 325, 3) := by decide +kernel
theorem dX6_kilosInStore_37 : decode cX6_kilosInStore 37 = .ok (.iload_n 1, 1) := by decide +kernel
theorem dX6_kilosInStore_38 : decode cX6_kilosInStore 38 = .ok (.iaload, 1) := by decide +kernel
theorem dX6_kilosInStore_39 : decode cX6_kilosInStore 39 = .ok (.iadd, 1) := by decide +kernel
theorem dX6_kilosInStore_40 : decode cX6_kilosInStore 40 = .ok (.istore_n 2, 1) := by decide +kernel
theorem dX6_kilosInStore_41 : decode cX6_kilosInStore 41 = .ok (.iinc 3 1, 3) := by decide +kernel
theorem dX6_kilosInStore_44 : decode cX6_kilosInStore 44 = .ok (.goto (-40), 3) := by decide +kernel
theorem dX6_kilosInStore_47 : decode cX6_kilosInStore 47 = .ok (.iload_n 2, 1) := by decide +kernel
theorem dX6_kilosInStore_48 : decode cX6_kilosInStore 48 = .ok (.ireturn, 1) := by decide +kernel
theorem dX6_waitingKilos_0 : decode cX6_waitingKilos 0 = .ok (.iconst 0, 1) := by decide +kernel
theorem dX6_waitingKilos_1 : decode cX6_waitingKilos 1 = .ok (.istore_n 1, 1) := by decide +kernel
theorem dX6_waitingKilos_2 : decode cX6_waitingKilos 2 = .ok (.iconst 0, 1) := by decide +kernel
theorem dX6_waitingKilos_3 : decode cX6_waitingKilos 3 = .ok (.istore_n 2, 1) := by decide +kernel
theorem dX6_waitingKilos_4 : decode cX6_waitingKilos 4 = .ok (.iload_n 2, 1) := by decide +kernel
theorem dX6_waitingKilos_5 : decode cX6_waitingKilos 5 = .ok (.aload_n 0, 1) := by decide +kernel
theorem dX6_waitingKilos_6 : decode cX6_waitingKilos 6 = .ok (.getfield 52, 3) := by decide +kernel
theorem dX6_waitingKilos_9 : decode cX6_waitingKilos 9 = .ok (.if_icmp .ge 33, 3) := by decide +kernel
theorem dX6_waitingKilos_12 : decode cX6_waitingKilos 12 = .ok (.aload_n 0, 1) := by decide +kernel
theorem dX6_waitingKilos_13 : decode cX6_waitingKilos 13 = .ok (.getfield 17, 3) := by decide +kernel
theorem dX6_waitingKilos_16 : decode cX6_waitingKilos 16 = .ok (.iload_n 2, 1) := by decide +kernel
theorem dX6_waitingKilos_17 : decode cX6_waitingKilos 17 = .ok (.aaload, 1) := by decide +kernel
theorem dX6_waitingKilos_18 : decode cX6_waitingKilos 18 = .ok (.getfield 152, 3) := by decide +kernel
theorem dX6_waitingKilos_21 : decode cX6_waitingKilos 21 = .ok (.ifCond .ne 15, 3) := by decide +kernel
theorem dX6_waitingKilos_24 : decode cX6_waitingKilos 24 = .ok (.iload_n 1, 1) := by decide +kernel
theorem dX6_waitingKilos_25 : decode cX6_waitingKilos 25 = .ok (.aload_n 0, 1) := by decide +kernel
theorem dX6_waitingKilos_26 : decode cX6_waitingKilos 26 = .ok (.getfield 17, 3) := by decide +kernel
theorem dX6_waitingKilos_29 : decode cX6_waitingKilos 29 = .ok (.iload_n 2, 1) := by decide +kernel
theorem dX6_waitingKilos_30 : decode cX6_waitingKilos 30 = .ok (.aaload, 1) := by decide +kernel
theorem dX6_waitingKilos_31 : decode cX6_waitingKilos 31 = .ok (.getfield 149, 3) := by decide +kernel
theorem dX6_waitingKilos_34 : decode cX6_waitingKilos 34 = .ok (.iadd, 1) := by decide +kernel
theorem dX6_waitingKilos_35 : decode cX6_waitingKilos 35 = .ok (.istore_n 1, 1) := by decide +kernel
theorem dX6_waitingKilos_36 : decode cX6_waitingKilos 36 = .ok (.iinc 2 1, 3) := by decide +kernel
theorem dX6_waitingKilos_39 : decode cX6_waitingKilos 39 = .ok (.goto (-35), 3) := by decide +kernel
theorem dX6_waitingKilos_42 : decode cX6_waitingKilos 42 = .ok (.iload_n 1, 1) := by decide +kernel
theorem dX6_waitingKilos_43 : decode cX6_waitingKilos 43 = .ok (.ireturn, 1) := by decide +kernel
theorem dX6_kilosInTanks_0 : decode cX6_kilosInTanks 0 = .ok (.iconst 0, 1) := by decide +kernel
theorem dX6_kilosInTanks_1 : decode cX6_kilosInTanks 1 = .ok (.istore_n 1, 1) := by decide +kernel
theorem dX6_kilosInTanks_2 : decode cX6_kilosInTanks 2 = .ok (.iconst 0, 1) := by decide +kernel
theorem dX6_kilosInTanks_3 : decode cX6_kilosInTanks 3 = .ok (.istore_n 2, 1) := by decide +kernel
theorem dX6_kilosInTanks_4 : decode cX6_kilosInTanks 4 = .ok (.iload_n 2, 1) := by decide +kernel
theorem dX6_kilosInTanks_5 : decode cX6_kilosInTanks 5 = .ok (.iconst 3, 1) := by decide +kernel
theorem dX6_kilosInTanks_6 : decode cX6_kilosInTanks 6 = .ok (.if_icmp .ge 24, 3) := by decide +kernel
theorem dX6_kilosInTanks_9 : decode cX6_kilosInTanks 9 = .ok (.iload_n 1, 1) := by decide +kernel
theorem dX6_kilosInTanks_10 : decode cX6_kilosInTanks 10 = .ok (.aload_n 0, 1) := by decide +kernel
theorem dX6_kilosInTanks_11 : decode cX6_kilosInTanks 11 = .ok (.getfield 23, 3) := by decide +kernel
theorem dX6_kilosInTanks_14 : decode cX6_kilosInTanks 14 = .ok (.iload_n 2, 1) := by decide +kernel
theorem dX6_kilosInTanks_15 : decode cX6_kilosInTanks 15 = .ok (.aaload, 1) := by decide +kernel
theorem dX6_kilosInTanks_16 : decode cX6_kilosInTanks 16 = .ok (.getfield 161, 3) := by decide +kernel
theorem dX6_kilosInTanks_19 : decode cX6_kilosInTanks 19 = .ok (.getfield 171, 3) := by decide +kernel
theorem dX6_kilosInTanks_22 : decode cX6_kilosInTanks 22 = .ok (.iadd, 1) := by decide +kernel
theorem dX6_kilosInTanks_23 : decode cX6_kilosInTanks 23 = .ok (.istore_n 1, 1) := by decide +kernel
theorem dX6_kilosInTanks_24 : decode cX6_kilosInTanks 24 = .ok (.iinc 2 1, 3) := by decide +kernel
theorem dX6_kilosInTanks_27 : decode cX6_kilosInTanks 27 = .ok (.goto (-23), 3) := by decide +kernel
theorem dX6_kilosInTanks_30 : decode cX6_kilosInTanks 30 = .ok (.iload_n 1, 1) := by decide +kernel
theorem dX6_kilosInTanks_31 : decode cX6_kilosInTanks 31 = .ok (.ireturn, 1) := by decide +kernel
theorem dX6_kilosOnBeds_0 : decode cX6_kilosOnBeds 0 = .ok (.iconst 0, 1) := by decide +kernel
theorem dX6_kilosOnBeds_1 : decode cX6_kilosOnBeds 1 = .ok (.istore_n 1, 1) := by decide +kernel
theorem dX6_kilosOnBeds_2 : decode cX6_kilosOnBeds 2 = .ok (.iconst 0, 1) := by decide +kernel
theorem dX6_kilosOnBeds_3 : decode cX6_kilosOnBeds 3 = .ok (.istore_n 2, 1) := by decide +kernel
theorem dX6_kilosOnBeds_4 : decode cX6_kilosOnBeds 4 = .ok (.iload_n 2, 1) := by decide +kernel
theorem dX6_kilosOnBeds_5 : decode cX6_kilosOnBeds 5 = .ok (.aload_n 0, 1) := by decide +kernel
theorem dX6_kilosOnBeds_6 : decode cX6_kilosOnBeds 6 = .ok (.getfield 55, 3) := by decide +kernel
theorem dX6_kilosOnBeds_9 : decode cX6_kilosOnBeds 9 = .ok (.if_icmp .ge 24, 3) := by decide +kernel
theorem dX6_kilosOnBeds_12 : decode cX6_kilosOnBeds 12 = .ok (.iload_n 1, 1) := by decide +kernel
theorem dX6_kilosOnBeds_13 : decode cX6_kilosOnBeds 13 = .ok (.aload_n 0, 1) := by decide +kernel
theorem dX6_kilosOnBeds_14 : decode cX6_kilosOnBeds 14 = .ok (.getfield 29, 3) := by decide +kernel
theorem dX6_kilosOnBeds_17 : decode cX6_kilosOnBeds 17 = .ok (.iload_n 2, 1) := by decide +kernel
theorem dX6_kilosOnBeds_18 : decode cX6_kilosOnBeds 18 = .ok (.aaload, 1) := by decide +kernel
theorem dX6_kilosOnBeds_19 : decode cX6_kilosOnBeds 19 = .ok (.getfield 190, 3) := by decide +kernel
theorem dX6_kilosOnBeds_22 : decode cX6_kilosOnBeds 22 = .ok (.getfield 171, 3) := by decide +kernel
theorem dX6_kilosOnBeds_25 : decode cX6_kilosOnBeds 25 = .ok (.iadd, 1) := by decide +kernel
theorem dX6_kilosOnBeds_26 : decode cX6_kilosOnBeds 26 = .ok (.istore_n 1, 1) := by decide +kernel
theorem dX6_kilosOnBeds_27 : decode cX6_kilosOnBeds 27 = .ok (.iinc 2 1, 3) := by decide +kernel
theorem dX6_kilosOnBeds_30 : decode cX6_kilosOnBeds 30 = .ok (.goto (-26), 3) := by decide +kernel
theorem dX6_kilosOnBeds_33 : decode cX6_kilosOnBeds 33 = .ok (.iload_n 1, 1) := by decide +kernel
theorem dX6_kilosOnBeds_34 : decode cX6_kilosOnBeds 34 = .ok (.ireturn, 1) := by decide +kernel
theorem dX6_allCoins_0 : decode cX6_allCoins 0 = .ok (.iconst 0, 1) := by decide +kernel
theorem dX6_allCoins_1 : decode cX6_allCoins 1 = .ok (.istore_n 1, 1) := by decide +kernel
theorem dX6_allCoins_2 : decode cX6_allCoins 2 = .ok (.iconst 0, 1) := by decide +kernel
theorem dX6_allCoins_3 : decode cX6_allCoins 3 = .ok (.istore_n 2, 1) := by decide +kernel
theorem dX6_allCoins_4 : decode cX6_allCoins 4 = .ok (.iload_n 2, 1) := by decide +kernel
theorem dX6_allCoins_5 : decode cX6_allCoins 5 = .ok (.aload_n 0, 1) := by decide +kernel
theorem dX6_allCoins_6 : decode cX6_allCoins 6 = .ok (.getfield 48, 3) := by decide +kernel
theorem dX6_allCoins_9 : decode cX6_allCoins 9 = .ok (.if_icmp .ge 21, 3) := by decide +kernel
theorem dX6_allCoins_12 : decode cX6_allCoins 12 = .ok (.iload_n 1, 1) := by decide +kernel
theorem dX6_allCoins_13 : decode cX6_allCoins 13 = .ok (.aload_n 0, 1) := by decide +kernel
theorem dX6_allCoins_14 : decode cX6_allCoins 14 = .ok (.getfield 11, 3) := by decide +kernel
theorem dX6_allCoins_17 : decode cX6_allCoins 17 = .ok (.iload_n 2, 1) := by decide +kernel
theorem dX6_allCoins_18 : decode cX6_allCoins 18 = .ok (.aaload, 1) := by decide +kernel
theorem dX6_allCoins_19 : decode cX6_allCoins 19 = .ok (.getfield 123, 3) := by decide +kernel
theorem dX6_allCoins_22 : decode cX6_allCoins 22 = .ok (.iadd, 1) := by decide +kernel
theorem dX6_allCoins_23 : decode cX6_allCoins 23 = .ok (.istore_n 1, 1) := by decide +kernel
theorem dX6_allCoins_24 : decode cX6_allCoins 24 = .ok (.iinc 2 1, 3) := by decide +kernel
theorem dX6_allCoins_27 : decode cX6_allCoins 27 = .ok (.goto (-23), 3) := by decide +kernel
theorem dX6_allCoins_30 : decode cX6_allCoins 30 = .ok (.iload_n 1, 1) := by decide +kernel
theorem dX6_allCoins_31 : decode cX6_allCoins 31 = .ok (.ireturn, 1) := by decide +kernel
theorem dX6_blendedScore_0 : decode cX6_blendedScore 0 = .ok (.aload_n 0, 1) := by decide +kernel
theorem dX6_blendedScore_1 : decode cX6_blendedScore 1 = .ok (.getfield 40, 3) := by decide +kernel
theorem dX6_blendedScore_4 : decode cX6_blendedScore 4 = .ok (.aload_n 1, 1) := by decide +kernel
theorem dX6_blendedScore_5 : decode cX6_blendedScore 5 = .ok (.invokevirtual 447, 3) := by decide +kernel
theorem dX6_blendedScore_8 : decode cX6_blendedScore 8 = .ok (.aload_n 0, 1) := by decide +kernel
theorem dX6_blendedScore_9 : decode cX6_blendedScore 9 = .ok (.getfield 40, 3) := by decide +kernel
theorem dX6_blendedScore_12 : decode cX6_blendedScore 12 = .ok (.aload_n 2, 1) := by decide +kernel
theorem dX6_blendedScore_13 : decode cX6_blendedScore 13 = .ok (.invokevirtual 251, 3) := by decide +kernel
theorem dX6_blendedScore_16 : decode cX6_blendedScore 16 = .ok (.aload_n 0, 1) := by decide +kernel
theorem dX6_blendedScore_17 : decode cX6_blendedScore 17 = .ok (.getfield 40, 3) := by decide +kernel
theorem dX6_blendedScore_20 : decode cX6_blendedScore 20 = .ok (.aload_n 0, 1) := by decide +kernel
theorem dX6_blendedScore_21 : decode cX6_blendedScore 21 = .ok (.getfield 11, 3) := by decide +kernel
theorem dX6_blendedScore_24 : decode cX6_blendedScore 24 = .ok (.invokevirtual 236, 3) := by decide +kernel
theorem dX6_blendedScore_27 : decode cX6_blendedScore 27 = .ok (.ireturn, 1) := by decide +kernel
theorem dX6_meanByKilos_0 : decode cX6_meanByKilos 0 = .ok (.iload_n 0, 1) := by decide +kernel
theorem dX6_meanByKilos_1 : decode cX6_meanByKilos 1 = .ok (.iload_n 2, 1) := by decide +kernel
theorem dX6_meanByKilos_2 : decode cX6_meanByKilos 2 = .ok (.iadd, 1) := by decide +kernel
theorem dX6_meanByKilos_3 : decode cX6_meanByKilos 3 = .ok (.istore 4, 2) := by decide +kernel
theorem dX6_meanByKilos_5 : decode cX6_meanByKilos 5 = .ok (.iload 4, 2) := by decide +kernel
theorem dX6_meanByKilos_7 : decode cX6_meanByKilos 7 = .ok (.ifCond .le 16, 3) := by decide +kernel
theorem dX6_meanByKilos_10 : decode cX6_meanByKilos 10 = .ok (.iload_n 0, 1) := by decide +kernel
theorem dX6_meanByKilos_11 : decode cX6_meanByKilos 11 = .ok (.iload_n 1, 1) := by decide +kernel
theorem dX6_meanByKilos_12 : decode cX6_meanByKilos 12 = .ok (.imul, 1) := by decide +kernel
theorem dX6_meanByKilos_13 : decode cX6_meanByKilos 13 = .ok (.iload_n 2, 1) := by decide +kernel
theorem dX6_meanByKilos_14 : decode cX6_meanByKilos 14 = .ok (.iload_n 3, 1) := by decide +kernel
theorem dX6_meanByKilos_15 : decode cX6_meanByKilos 15 = .ok (.imul, 1) := by decide +kernel
theorem dX6_meanByKilos_16 : decode cX6_meanByKilos 16 = .ok (.iadd, 1) := by decide +kernel
theorem dX6_meanByKilos_17 : decode cX6_meanByKilos 17 = .ok (.iload 4, 2) := by decide +kernel
theorem dX6_meanByKilos_19 : decode cX6_meanByKilos 19 = .ok (.idiv, 1) := by decide +kernel
theorem dX6_meanByKilos_20 : decode cX6_meanByKilos 20 = .ok (.goto 4, 3) := by decide +kernel
theorem dX6_meanByKilos_23 : decode cX6_meanByKilos 23 = .ok (.iconst 0, 1) := by decide +kernel
theorem dX6_meanByKilos_24 : decode cX6_meanByKilos 24 = .ok (.ireturn, 1) := by decide +kernel
theorem dX7_init_0 : decode cX7_init 0 = .ok (.aload_n 0, 1) := by decide +kernel
theorem dX7_init_1 : decode cX7_init 1 = .ok (.invokespecial 3, 3) := by decide +kernel
theorem dX7_init_4 : decode cX7_init 4 = .ok (.aload_n 0, 1) := by decide +kernel
theorem dX7_init_5 : decode cX7_init 5 = .ok (.new 9, 3) := by decide +kernel
theorem dX7_init_8 : decode cX7_init 8 = .ok (.dup, 1) := by decide +kernel
theorem dX7_init_9 : decode cX7_init 9 = .ok (.invokespecial 11, 3) := by decide +kernel
theorem dX7_init_12 : decode cX7_init 12 = .ok (.putfield 12, 3) := by decide +kernel
theorem dX7_init_15 : decode cX7_init 15 = .ok (.aload_n 0, 1) := by decide +kernel
theorem dX7_init_16 : decode cX7_init 16 = .ok (.new 9, 3) := by decide +kernel
theorem dX7_init_19 : decode cX7_init 19 = .ok (.dup, 1) := by decide +kernel
theorem dX7_init_20 : decode cX7_init 20 = .ok (.invokespecial 11, 3) := by decide +kernel
theorem dX7_init_23 : decode cX7_init 23 = .ok (.putfield 16, 3) := by decide +kernel
theorem dX7_init_26 : decode cX7_init 26 = .ok (.aload_n 0, 1) := by decide +kernel
theorem dX7_init_27 : decode cX7_init 27 = .ok (.iconst 3, 1) := by decide +kernel
theorem dX7_init_28 : decode cX7_init 28 = .ok (.bipush 23, 2) := by decide +kernel
theorem dX7_init_30 : decode cX7_init 30 = .ok (.multianewarray 19 2, 4) := by decide +kernel
theorem dX7_init_34 : decode cX7_init 34 = .ok (.putfield 21, 3) := by decide +kernel
theorem dX7_init_37 : decode cX7_init 37 = .ok (.aload_n 0, 1) := by decide +kernel
theorem dX7_init_38 : decode cX7_init 38 = .ok (.new 9, 3) := by decide +kernel
theorem dX7_init_41 : decode cX7_init 41 = .ok (.dup, 1) := by decide +kernel
theorem dX7_init_42 : decode cX7_init 42 = .ok (.invokespecial 11, 3) := by decide +kernel
theorem dX7_init_45 : decode cX7_init 45 = .ok (.putfield 24, 3) := by decide +kernel
theorem dX7_init_48 : decode cX7_init 48 = .ok (.aload_n 0, 1) := by decide +kernel
theorem dX7_init_49 : decode cX7_init 49 = .ok (.new 9, 3) := by decide +kernel
theorem dX7_init_52 : decode cX7_init 52 = .ok (.dup, 1) := by decide +kernel
theorem dX7_init_53 : decode cX7_init 53 = .ok (.invokespecial 11, 3) := by decide +kernel
theorem dX7_init_56 : decode cX7_init 56 = .ok (.putfield 27, 3) := by decide +kernel
theorem dX7_init_59 : decode cX7_init 59 = .ok (.aload_n 0, 1) := by decide +kernel
theorem dX7_init_60 : decode cX7_init 60 = .ok (.bipush 12, 2) := by decide +kernel
theorem dX7_init_62 : decode cX7_init 62 = .ok (.iconst 3, 1) := by decide +kernel
theorem dX7_init_63 : decode cX7_init 63 = .ok (.multianewarray 19 2, 4) := by decide +kernel
theorem dX7_init_67 : decode cX7_init 67 = .ok (.putfield 30, 3) := by decide +kernel
theorem dX7_init_70 : decode cX7_init 70 = .ok (.aload_n 0, 1) := by decide +kernel
theorem dX7_init_71 : decode cX7_init 71 = .ok (.iconst 3, 1) := by decide +kernel
theorem dX7_init_72 : decode cX7_init 72 = .ok (.newarray .int, 2) := by decide +kernel
theorem dX7_init_74 : decode cX7_init 74 = .ok (.putfield 33, 3) := by decide +kernel
theorem dX7_init_77 : decode cX7_init 77 = .ok (.aload_n 0, 1) := by decide +kernel
theorem dX7_init_78 : decode cX7_init 78 = .ok (.iconst 5, 1) := by decide +kernel
theorem dX7_init_79 : decode cX7_init 79 = .ok (.putfield 37, 3) := by decide +kernel
theorem dX7_init_82 : decode cX7_init 82 = .ok (.return_, 1) := by decide +kernel
theorem dX7_thrown_0 : decode cX7_thrown 0 = .ok (.aload_n 0, 1) := by decide +kernel
theorem dX7_thrown_1 : decode cX7_thrown 1 = .ok (.getfield 41, 3) := by decide +kernel
theorem dX7_thrown_4 : decode cX7_thrown 4 = .ok (.ireturn, 1) := by decide +kernel
theorem dX7_refuse_0 : decode cX7_refuse 0 = .ok (.aload_n 0, 1) := by decide +kernel
theorem dX7_refuse_1 : decode cX7_refuse 1 = .ok (.iload_n 1, 1) := by decide +kernel
theorem dX7_refuse_2 : decode cX7_refuse 2 = .ok (.putfield 41, 3) := by decide +kernel
theorem dX7_refuse_5 : decode cX7_refuse 5 = .ok (.iconst 0, 1) := by decide +kernel
theorem dX7_refuse_6 : decode cX7_refuse 6 = .ok (.ireturn, 1) := by decide +kernel
theorem dX7_is_0 : decode cX7_is 0 = .ok (.iload_n 0, 1) := by decide +kernel
theorem dX7_is_1 : decode cX7_is 1 = .ok (.iload_n 1, 1) := by decide +kernel
theorem dX7_is_2 : decode cX7_is 2 = .ok (.if_icmp .lt 12, 3) := by decide +kernel
theorem dX7_is_5 : decode cX7_is 5 = .ok (.iload_n 0, 1) := by decide +kernel
theorem dX7_is_6 : decode cX7_is 6 = .ok (.iload_n 2, 1) := by decide +kernel
theorem dX7_is_7 : decode cX7_is 7 = .ok (.if_icmp .gt 7, 3) := by decide +kernel
theorem dX7_is_10 : decode cX7_is 10 = .ok (.iconst 1, 1) := by decide +kernel
theorem dX7_is_11 : decode cX7_is 11 = .ok (.goto 4, 3) := by decide +kernel
theorem dX7_is_14 : decode cX7_is 14 = .ok (.iconst 0, 1) := by decide +kernel
theorem dX7_is_15 : decode cX7_is 15 = .ok (.ireturn, 1) := by decide +kernel
theorem dX7_isFarm_0 : decode cX7_isFarm 0 = .ok (.iload_n 1, 1) := by decide +kernel
theorem dX7_isFarm_1 : decode cX7_isFarm 1 = .ok (.iconst 0, 1) := by decide +kernel
theorem dX7_isFarm_2 : decode cX7_isFarm 2 = .ok (.aload_n 0, 1) := by decide +kernel
theorem dX7_isFarm_3 : decode cX7_isFarm 3 = .ok (.getfield 12, 3) := by decide +kernel
theorem dX7_isFarm_6 : decode cX7_isFarm 6 = .ok (.invokevirtual 44, 3) := by decide +kernel
theorem dX7_isFarm_9 : decode cX7_isFarm 9 = .ok (.iconst 1, 1) := by decide +kernel
theorem dX7_isFarm_10 : decode cX7_isFarm 10 = .ok (.isub, 1) := by decide +kernel
theorem dX7_isFarm_11 : decode cX7_isFarm 11 = .ok (.invokestatic 48, 3) := by decide +kernel
theorem dX7_isFarm_14 : decode cX7_isFarm 14 = .ok (.ireturn, 1) := by decide +kernel
theorem dX7_isBasket_0 : decode cX7_isBasket 0 = .ok (.iload_n 1, 1) := by decide +kernel
theorem dX7_isBasket_1 : decode cX7_isBasket 1 = .ok (.iconst 0, 1) := by decide +kernel
theorem dX7_isBasket_2 : decode cX7_isBasket 2 = .ok (.aload_n 0, 1) := by decide +kernel
theorem dX7_isBasket_3 : decode cX7_isBasket 3 = .ok (.getfield 16, 3) := by decide +kernel
theorem dX7_isBasket_6 : decode cX7_isBasket 6 = .ok (.invokevirtual 44, 3) := by decide +kernel
theorem dX7_isBasket_9 : decode cX7_isBasket 9 = .ok (.iconst 1, 1) := by decide +kernel
theorem dX7_isBasket_10 : decode cX7_isBasket 10 = .ok (.isub, 1) := by decide +kernel
theorem dX7_isBasket_11 : decode cX7_isBasket 11 = .ok (.invokestatic 48, 3) := by decide +kernel
theorem dX7_isBasket_14 : decode cX7_isBasket 14 = .ok (.ireturn, 1) := by decide +kernel
theorem dX7_isTank_0 : decode cX7_isTank 0 = .ok (.iload_n 0, 1) := by decide +kernel
theorem dX7_isTank_1 : decode cX7_isTank 1 = .ok (.iconst 0, 1) := by decide +kernel
theorem dX7_isTank_2 : decode cX7_isTank 2 = .ok (.iconst 2, 1) := by decide +kernel
theorem dX7_isTank_3 : decode cX7_isTank 3 = .ok (.invokestatic 48, 3) := by decide +kernel
theorem dX7_isTank_6 : decode cX7_isTank 6 = .ok (.ireturn, 1) := by decide +kernel
theorem dX7_isBed_0 : decode cX7_isBed 0 = .ok (.iload_n 1, 1) := by decide +kernel
theorem dX7_isBed_1 : decode cX7_isBed 1 = .ok (.iconst 0, 1) := by decide +kernel
theorem dX7_isBed_2 : decode cX7_isBed 2 = .ok (.aload_n 0, 1) := by decide +kernel
theorem dX7_isBed_3 : decode cX7_isBed 3 = .ok (.getfield 24, 3) := by decide +kernel
theorem dX7_isBed_6 : decode cX7_isBed 6 = .ok (.invokevirtual 44, 3) := by decide +kernel
theorem dX7_isBed_9 : decode cX7_isBed 9 = .ok (.iconst 1, 1) := by decide +kernel
theorem dX7_isBed_10 : decode cX7_isBed 10 = .ok (.isub, 1) := by decide +kernel
theorem dX7_isBed_11 : decode cX7_isBed 11 = .ok (.invokestatic 48, 3) := by decide +kernel
theorem dX7_isBed_14 : decode cX7_isBed 14 = .ok (.ireturn, 1) := by decide +kernel
theorem dX7_isLot_0 : decode cX7_isLot 0 = .ok (.iload_n 1, 1) := by decide +kernel
theorem dX7_isLot_1 : decode cX7_isLot 1 = .ok (.iconst 0, 1) := by decide +kernel
theorem dX7_isLot_2 : decode cX7_isLot 2 = .ok (.aload_n 0, 1) := by decide +kernel
theorem dX7_isLot_3 : decode cX7_isLot 3 = .ok (.getfield 27, 3) := by decide +kernel
theorem dX7_isLot_6 : decode cX7_isLot 6 = .ok (.invokevirtual 44, 3) := by decide +kernel
theorem dX7_isLot_9 : decode cX7_isLot 9 = .ok (.iconst 1, 1) := by decide +kernel
theorem dX7_isLot_10 : decode cX7_isLot 10 = .ok (.isub, 1) := by decide +kernel
theorem dX7_isLot_11 : decode cX7_isLot 11 = .ok (.invokestatic 48, 3) := by decide +kernel
theorem dX7_isLot_14 : decode cX7_isLot 14 = .ok (.ireturn, 1) := by decide +kernel
theorem dX7_isWarmth_0 : decode cX7_isWarmth 0 = .ok (.iload_n 0, 1) := by decide +kernel
theorem dX7_isWarmth_1 : decode cX7_isWarmth 1 = .ok (.iconst 0, 1) := by decide +kernel
theorem dX7_isWarmth_2 : decode cX7_isWarmth 2 = .ok (.bipush 40, 2) := by decide +kernel
theorem dX7_isWarmth_4 : decode cX7_isWarmth 4 = .ok (.invokestatic 48, 3) := by decide +kernel
theorem dX7_isWarmth_7 : decode cX7_isWarmth 7 = .ok (.ireturn, 1) := by decide +kernel
theorem dX7_sum_0 : decode cX7_sum 0 = .ok (.iconst 0, 1) := by decide +kernel
theorem dX7_sum_1 : decode cX7_sum 1 = .ok (.istore_n 2, 1) := by decide +kernel
theorem dX7_sum_2 : decode cX7_sum 2 = .ok (.iconst 0, 1) := by decide +kernel
theorem dX7_sum_3 : decode cX7_sum 3 = .ok (.istore_n 3, 1) := by decide +kernel
theorem dX7_sum_4 : decode cX7_sum 4 = .ok (.iload_n 3, 1) := by decide +kernel
theorem dX7_sum_5 : decode cX7_sum 5 = .ok (.bipush 6, 2) := by decide +kernel
theorem dX7_sum_7 : decode cX7_sum 7 = .ok (.if_icmp .ge 17, 3) := by decide +kernel
theorem dX7_sum_10 : decode cX7_sum 10 = .ok (.iload_n 2, 1) := by decide +kernel
theorem dX7_sum_11 : decode cX7_sum 11 = .ok (.aload_n 0, 1) := by decide +kernel
theorem dX7_sum_12 : decode cX7_sum 12 = .ok (.iload_n 1, 1) := by decide +kernel
theorem dX7_sum_13 : decode cX7_sum 13 = .ok (.iload_n 3, 1) := by decide +kernel
theorem dX7_sum_14 : decode cX7_sum 14 = .ok (.iadd, 1) := by decide +kernel
theorem dX7_sum_15 : decode cX7_sum 15 = .ok (.iaload, 1) := by decide +kernel
theorem dX7_sum_16 : decode cX7_sum 16 = .ok (.iadd, 1) := by decide +kernel
theorem dX7_sum_17 : decode cX7_sum 17 = .ok (.istore_n 2, 1) := by decide +kernel
theorem dX7_sum_18 : decode cX7_sum 18 = .ok (.iinc 3 1, 3) := by decide +kernel
theorem dX7_sum_21 : decode cX7_sum 21 = .ok (.goto (-17), 3) := by decide +kernel
theorem dX7_sum_24 : decode cX7_sum 24 = .ok (.iload_n 2, 1) := by decide +kernel
theorem dX7_sum_25 : decode cX7_sum 25 = .ok (.ireturn, 1) := by decide +kernel
theorem dX7_mean_0 : decode cX7_mean 0 = .ok (.iload_n 0, 1) := by decide +kernel
theorem dX7_mean_1 : decode cX7_mean 1 = .ok (.iload_n 1, 1) := by decide +kernel
theorem dX7_mean_2 : decode cX7_mean 2 = .ok (.imul, 1) := by decide +kernel
theorem dX7_mean_3 : decode cX7_mean 3 = .ok (.iload_n 2, 1) := by decide +kernel
theorem dX7_mean_4 : decode cX7_mean 4 = .ok (.iload_n 3, 1) := by decide +kernel
theorem dX7_mean_5 : decode cX7_mean 5 = .ok (.imul, 1) := by decide +kernel
theorem dX7_mean_6 : decode cX7_mean 6 = .ok (.iadd, 1) := by decide +kernel
theorem dX7_mean_7 : decode cX7_mean 7 = .ok (.iload_n 0, 1) := by decide +kernel
theorem dX7_mean_8 : decode cX7_mean 8 = .ok (.iload_n 2, 1) := by decide +kernel
theorem dX7_mean_9 : decode cX7_mean 9 = .ok (.iadd, 1) := by decide +kernel
theorem dX7_mean_10 : decode cX7_mean 10 = .ok (.idiv, 1) := by decide +kernel
theorem dX7_mean_11 : decode cX7_mean 11 = .ok (.ireturn, 1) := by decide +kernel
theorem dX7_come_0 : decode cX7_come 0 = .ok (.aload_n 0, 1) := by decide +kernel
theorem dX7_come_1 : decode cX7_come 1 = .ok (.iconst 1, 1) := by decide +kernel
theorem dX7_come_2 : decode cX7_come 2 = .ok (.aload_n 0, 1) := by decide +kernel
theorem dX7_come_3 : decode cX7_come 3 = .ok (.iconst 0, 1) := by decide +kernel
theorem dX7_come_4 : decode cX7_come 4 = .ok (.iaload, 1) := by decide +kernel
theorem dX7_come_5 : decode cX7_come 5 = .ok (.aload_n 0, 1) := by decide +kernel
theorem dX7_come_6 : decode cX7_come 6 = .ok (.iconst 1, 1) := by decide +kernel
theorem dX7_come_7 : decode cX7_come 7 = .ok (.iaload, 1) := by decide +kernel
theorem dX7_come_8 : decode cX7_come 8 = .ok (.aload_n 1, 1) := by decide +kernel
theorem dX7_come_9 : decode cX7_come 9 = .ok (.iconst 0, 1) := by decide +kernel
theorem dX7_come_10 : decode cX7_come 10 = .ok (.iaload, 1) := by decide +kernel
theorem dX7_come_11 : decode cX7_come 11 = .ok (.aload_n 1, 1) := by decide +kernel
theorem dX7_come_12 : decode cX7_come 12 = .ok (.iconst 1, 1) := by decide +kernel
theorem dX7_come_13 : decode cX7_come 13 = .ok (.iaload, 1) := by decide +kernel
theorem dX7_come_14 : decode cX7_come 14 = .ok (.invokestatic 52, 3) := by decide +kernel
theorem dX7_come_17 : decode cX7_come 17 = .ok (.iastore, 1) := by decide +kernel
theorem dX7_come_18 : decode cX7_come 18 = .ok (.aload_n 0, 1) := by decide +kernel
theorem dX7_come_19 : decode cX7_come 19 = .ok (.iconst 0, 1) := by decide +kernel
theorem dX7_come_20 : decode cX7_come 20 = .ok (.dup2, 1) := by decide +kernel
theorem dX7_come_21 : decode cX7_come 21 = .ok (.iaload, 1) := by decide +kernel
theorem dX7_come_22 : decode cX7_come 22 = .ok (.aload_n 1, 1) := by decide +kernel
theorem dX7_come_23 : decode cX7_come 23 = .ok (.iconst 0, 1) := by decide +kernel
theorem dX7_come_24 : decode cX7_come 24 = .ok (.iaload, 1) := by decide +kernel
theorem dX7_come_25 : decode cX7_come 25 = .ok (.iadd, 1) := by decide +kernel
theorem dX7_come_26 : decode cX7_come 26 = .ok (.iastore, 1) := by decide +kernel
theorem dX7_come_27 : decode cX7_come 27 = .ok (.bipush 11, 2) := by decide +kernel
theorem dX7_come_29 : decode cX7_come 29 = .ok (.istore_n 2, 1) := by decide +kernel
theorem dX7_come_30 : decode cX7_come 30 = .ok (.iload_n 2, 1) := by decide +kernel
theorem dX7_come_31 : decode cX7_come 31 = .ok (.bipush 23, 2) := by decide +kernel
theorem dX7_come_33 : decode cX7_come 33 = .ok (.if_icmp .ge 18, 3) := by decide +kernel
theorem dX7_come_36 : decode cX7_come 36 = .ok (.aload_n 0, 1) := by decide +kernel
theorem dX7_come_37 : decode cX7_come 37 = .ok (.iload_n 2, 1) := by decide +kernel
theorem dX7_come_38 : decode cX7_come 38 = .ok (.dup2, 1) := by decide +kernel
theorem dX7_come_39 : decode cX7_come 39 = .ok (.iaload, 1) := by decide +kernel
theorem dX7_come_40 : decode cX7_come 40 = .ok (.aload_n 1, 1) := by decide +kernel
theorem dX7_come_41 : decode cX7_come 41 = .ok (.iload_n 2, 1) := by decide +kernel
theorem dX7_come_42 : decode cX7_come 42 = .ok (.iaload, 1) := by decide +kernel
theorem dX7_come_43 : decode cX7_come 43 = .ok (.iadd, 1) := by decide +kernel
theorem dX7_come_44 : decode cX7_come 44 = .ok (.iastore, 1) := by decide +kernel
theorem dX7_come_45 : decode cX7_come 45 = .ok (.iinc 2 1, 3) := by decide +kernel
theorem dX7_come_48 : decode cX7_come 48 = .ok (.goto (-18), 3) := by decide +kernel
theorem dX7_come_51 : decode cX7_come 51 = .ok (.return_, 1) := by decide +kernel
theorem dX7_mixOf_0 : decode cX7_mixOf 0 = .ok (.bipush 23, 2) := by decide +kernel
theorem dX7_mixOf_2 : decode cX7_mixOf 2 = .ok (.newarray .int, 2) := by decide +kernel
theorem dX7_mixOf_4 : decode cX7_mixOf 4 = .ok (.astore 4, 2) := by decide +kernel
theorem dX7_mixOf_6 : decode cX7_mixOf 6 = .ok (.aload 4, 2) := by decide +kernel
theorem dX7_mixOf_8 : decode cX7_mixOf 8 = .ok (.iconst 0, 1) := by decide +kernel
theorem dX7_mixOf_9 : decode cX7_mixOf 9 = .ok (.iload_n 1, 1) := by decide +kernel
theorem dX7_mixOf_10 : decode cX7_mixOf 10 = .ok (.iastore, 1) := by decide +kernel
theorem dX7_mixOf_11 : decode cX7_mixOf 11 = .ok (.aload 4, 2) := by decide +kernel
theorem dX7_mixOf_13 : decode cX7_mixOf 13 = .ok (.iconst 1, 1) := by decide +kernel
theorem dX7_mixOf_14 : decode cX7_mixOf 14 = .ok (.iload_n 2, 1) := by decide +kernel
theorem dX7_mixOf_15 : decode cX7_mixOf 15 = .ok (.iastore, 1) := by decide +kernel
theorem dX7_mixOf_16 : decode cX7_mixOf 16 = .ok (.aload 4, 2) := by decide +kernel
theorem dX7_mixOf_18 : decode cX7_mixOf 18 = .ok (.bipush 11, 2) := by decide +kernel
theorem dX7_mixOf_20 : decode cX7_mixOf 20 = .ok (.iload_n 0, 1) := by decide +kernel
theorem dX7_mixOf_21 : decode cX7_mixOf 21 = .ok (.iadd, 1) := by decide +kernel
theorem dX7_mixOf_22 : decode cX7_mixOf 22 = .ok (.iload_n 1, 1) := by decide +kernel
theorem dX7_mixOf_23 : decode cX7_mixOf 23 = .ok (.iastore, 1) := by decide +kernel
theorem dX7_mixOf_24 : decode cX7_mixOf 24 = .ok (.aload 4, 2) := by decide +kernel
theorem dX7_mixOf_26 : decode cX7_mixOf 26 = .ok (.bipush 17, 2) := by decide +kernel
theorem dX7_mixOf_28 : decode cX7_mixOf 28 = .ok (.iload_n 0, 1) := by decide +kernel
theorem dX7_mixOf_29 : decode cX7_mixOf 29 = .ok (.iadd, 1) := by decide +kernel
theorem dX7_mixOf_30 : decode cX7_mixOf 30 = .ok (.iload_n 3, 1) := by decide +kernel
theorem dX7_mixOf_31 : decode cX7_mixOf 31 = .ok (.ifCond .eq 7, 3) := by decide +kernel
theorem dX7_mixOf_34 : decode cX7_mixOf 34 = .ok (.iload_n 1, 1) := by decide +kernel
theorem dX7_mixOf_35 : decode cX7_mixOf 35 = .ok (.goto 4, 3) := by decide +kernel
theorem dX7_mixOf_38 : decode cX7_mixOf 38 = .ok (.iconst 0, 1) := by decide +kernel
theorem dX7_mixOf_39 : decode cX7_mixOf 39 = .ok (.iastore, 1) := by decide +kernel
theorem dX7_mixOf_40 : decode cX7_mixOf 40 = .ok (.aload 4, 2) := by decide +kernel
theorem dX7_mixOf_42 : decode cX7_mixOf 42 = .ok (.areturn, 1) := by decide +kernel
theorem dX7_empty_0 : decode cX7_empty 0 = .ok (.iconst 0, 1) := by decide +kernel
theorem dX7_empty_1 : decode cX7_empty 1 = .ok (.istore_n 1, 1) := by decide +kernel
theorem dX7_empty_2 : decode cX7_empty 2 = .ok (.iload_n 1, 1) := by decide +kernel
theorem dX7_empty_3 : decode cX7_empty 3 = .ok (.bipush 23, 2) := by decide +kernel
theorem dX7_empty_5 : decode cX7_empty 5 = .ok (.if_icmp .ge 25, 3) := by decide +kernel
theorem dX7_empty_8 : decode cX7_empty 8 = .ok (.iload_n 1, 1) := by decide +kernel
theorem dX7_empty_9 : decode cX7_empty 9 = .ok (.bipush 8, 2) := by decide +kernel
theorem dX7_empty_11 : decode cX7_empty 11 = .ok (.if_icmp .eq 13, 3) := by decide +kernel
theorem dX7_empty_14 : decode cX7_empty 14 = .ok (.iload_n 1, 1) := by decide +kernel
theorem dX7_empty_15 : decode cX7_empty 15 = .ok (.bipush 9, 2) := by decide +kernel
theorem dX7_empty_17 : decode cX7_empty 17 = .ok (.if_icmp .eq 7, 3) := by decide +kernel
theorem dX7_empty_20 : decode cX7_empty 20 = .ok (.aload_n 0, 1) := by decide +kernel
theorem dX7_empty_21 : decode cX7_empty 21 = .ok (.iload_n 1, 1) := by decide +kernel
theorem dX7_empty_22 : decode cX7_empty 22 = .ok (.iconst 0, 1) := by decide +kernel
theorem dX7_empty_23 : decode cX7_empty 23 = .ok (.iastore, 1) := by decide +kernel
theorem dX7_empty_24 : decode cX7_empty 24 = .ok (.iinc 1 1, 3) := by decide +kernel
theorem dX7_empty_27 : decode cX7_empty 27 = .ok (.goto (-25), 3) := by decide +kernel
theorem dX7_empty_30 : decode cX7_empty 30 = .ok (.return_, 1) := by decide +kernel
theorem dX7_farm_0 : decode cX7_farm 0 = .ok (.aload_n 0, 1) := by decide +kernel
theorem dX7_farm_1 : decode cX7_farm 1 = .ok (.iconst 0, 1) := by decide +kernel
theorem dX7_farm_2 : decode cX7_farm 2 = .ok (.putfield 41, 3) := by decide +kernel
theorem dX7_farm_5 : decode cX7_farm 5 = .ok (.iload_n 1, 1) := by decide +kernel
theorem dX7_farm_6 : decode cX7_farm 6 = .ok (.bipush 10, 2) := by decide +kernel
theorem dX7_farm_8 : decode cX7_farm 8 = .ok (.bipush 22, 2) := by decide +kernel
theorem dX7_farm_10 : decode cX7_farm 10 = .ok (.invokestatic 48, 3) := by decide +kernel
theorem dX7_farm_13 : decode cX7_farm 13 = .ok (.ifCond .ne 9, 3) := by decide +kernel
theorem dX7_farm_16 : decode cX7_farm 16 = .ok (.aload_n 0, 1) := by decide +kernel
theorem dX7_farm_17 : decode cX7_farm 17 = .ok (.iconst 1, 1) := by decide +kernel
theorem dX7_farm_18 : decode cX7_farm 18 = .ok (.invokevirtual 56, 3) := by decide +kernel
theorem dX7_farm_21 : decode cX7_farm 21 = .ok (.ireturn, 1) := by decide +kernel
theorem dX7_farm_22 : decode cX7_farm 22 = .ok (.aload_n 0, 1) := by decide +kernel
theorem dX7_farm_23 : decode cX7_farm 23 = .ok (.getfield 12, 3) := by decide +kernel
theorem dX7_farm_26 : decode cX7_farm 26 = .ok (.invokevirtual 44, 3) := by decide +kernel
theorem dX7_farm_29 : decode cX7_farm 29 = .ok (.bipush 6, 2) := by decide +kernel
theorem dX7_farm_31 : decode cX7_farm 31 = .ok (.if_icmp .ne 9, 3) := by decide +kernel
theorem dX7_farm_34 : decode cX7_farm 34 = .ok (.aload_n 0, 1) := by decide +kernel
theorem dX7_farm_35 : decode cX7_farm 35 = .ok (.iconst 2, 1) := by decide +kernel
theorem dX7_farm_36 : decode cX7_farm 36 = .ok (.invokevirtual 56, 3) := by decide +kernel
theorem dX7_farm_39 : decode cX7_farm 39 = .ok (.ireturn, 1) := by decide +kernel
theorem dX7_farm_40 : decode cX7_farm 40 = .ok (.iconst 4, 1) := by decide +kernel
theorem dX7_farm_41 : decode cX7_farm 41 = .ok (.newarray .int, 2) := by decide +kernel
theorem dX7_farm_43 : decode cX7_farm 43 = .ok (.astore_n 2, 1) := by decide +kernel
theorem dX7_farm_44 : decode cX7_farm 44 = .ok (.aload_n 2, 1) := by decide +kernel
theorem dX7_farm_45 : decode cX7_farm 45 = .ok (.iconst 0, 1) := by decide +kernel
theorem dX7_farm_46 : decode cX7_farm 46 = .ok (.iload_n 1, 1) := by decide +kernel
theorem dX7_farm_47 : decode cX7_farm 47 = .ok (.iastore, 1) := by decide +kernel
theorem dX7_farm_48 : decode cX7_farm 48 = .ok (.aload_n 2, 1) := by decide +kernel
theorem dX7_farm_49 : decode cX7_farm 49 = .ok (.iconst 1, 1) := by decide +kernel
theorem dX7_farm_50 : decode cX7_farm 50 = .ok (.iconst (-1), 1) := by decide +kernel
theorem dX7_farm_51 : decode cX7_farm 51 = .ok (.iastore, 1) := by decide +kernel
theorem dX7_farm_52 : decode cX7_farm 52 = .ok (.aload_n 0, 1) := by decide +kernel
theorem dX7_farm_53 : decode cX7_farm 53 = .ok (.getfield 12, 3) := by decide +kernel
theorem dX7_farm_56 : decode cX7_farm 56 = .ok (.aload_n 2, 1) := by decide +kernel
theorem dX7_farm_57 : decode cX7_farm 57 = .ok (.invokevirtual 60, 3) := by decide +kernel
theorem dX7_farm_60 : decode cX7_farm 60 = .ok (.pop, 1) := by decide +kernel
theorem dX7_farm_61 : decode cX7_farm 61 = .ok (.aload_n 0, 1) := by decide +kernel
theorem dX7_farm_62 : decode cX7_farm 62 = .ok (.getfield 12, 3) := by decide +kernel
theorem dX7_farm_65 : decode cX7_farm 65 = .ok (.invokevirtual 44, 3) := by decide +kernel
theorem dX7_farm_68 : decode cX7_farm 68 = .ok (.iconst 1, 1) := by decide +kernel
theorem dX7_farm_69 : decode cX7_farm 69 = .ok (.isub, 1) := by decide +kernel
theorem dX7_farm_70 : decode cX7_farm 70 = .ok (.ireturn, 1) := by decide +kernel
theorem dX7_label_0 : decode cX7_label 0 = .ok (.aload_n 0, 1) := by decide +kernel
theorem dX7_label_1 : decode cX7_label 1 = .ok (.iconst 0, 1) := by decide +kernel
theorem dX7_label_2 : decode cX7_label 2 = .ok (.putfield 41, 3) := by decide +kernel
theorem dX7_label_5 : decode cX7_label 5 = .ok (.aload_n 0, 1) := by decide +kernel
theorem dX7_label_6 : decode cX7_label 6 = .ok (.iload_n 1, 1) := by decide +kernel
theorem dX7_label_7 : decode cX7_label 7 = .ok (.invokevirtual 64, 3) := by decide +kernel
theorem dX7_label_10 : decode cX7_label 10 = .ok (.ifCond .ne 9, 3) := by decide +kernel
theorem dX7_label_13 : decode cX7_label 13 = .ok (.aload_n 0, 1) := by decide +kernel
theorem dX7_label_14 : decode cX7_label 14 = .ok (.iconst 1, 1) := by decide +kernel
theorem dX7_label_15 : decode cX7_label 15 = .ok (.invokevirtual 56, 3) := by decide +kernel
theorem dX7_label_18 : decode cX7_label 18 = .ok (.ireturn, 1) := by decide +kernel
theorem dX7_label_19 : decode cX7_label 19 = .ok (.iload_n 2, 1) := by decide +kernel
theorem dX7_label_20 : decode cX7_label 20 = .ok (.iconst (-1), 1) := by decide +kernel
theorem dX7_label_21 : decode cX7_label 21 = .ok (.sipush 900, 3) := by decide +kernel
theorem dX7_label_24 : decode cX7_label 24 = .ok (.invokestatic 48, 3) := by decide +kernel
theorem dX7_label_27 : decode cX7_label 27 = .ok (.ifCond .ne 9, 3) := by decide +kernel
theorem dX7_label_30 : decode cX7_label 30 = .ok (.aload_n 0, 1) := by decide +kernel
theorem dX7_label_31 : decode cX7_label 31 = .ok (.iconst 2, 1) := by decide +kernel
theorem dX7_label_32 : decode cX7_label 32 = .ok (.invokevirtual 56, 3) := by decide +kernel
theorem dX7_label_35 : decode cX7_label 35 = .ok (.ireturn, 1) := by decide +kernel
theorem dX7_label_36 : decode cX7_label 36 = .ok (.aload_n 0, 1) := by decide +kernel
theorem dX7_label_37 : decode cX7_label 37 = .ok (.getfield 12, 3) := by decide +kernel
theorem dX7_label_40 : decode cX7_label 40 = .ok (.iload_n 1, 1) := by decide +kernel
theorem dX7_label_41 : decode cX7_label 41 = .ok (.invokevirtual 68, 3) := by decide +kernel
theorem dX7_label_44 : decode cX7_label 44 = .ok (.checkcast 72, 3) := by decide +kernel
theorem dX7_label_47 : decode cX7_label 47 = .ok (.iconst 1, 1) := by decide +kernel
theorem dX7_label_48 : decode cX7_label 48 = .ok (.iaload, 1) := by decide +kernel
theorem dX7_label_49 : decode cX7_label 49 = .ok (.istore_n 3, 1) := by decide +kernel
theorem dX7_label_50 : decode cX7_label 50 = .ok (.aload_n 0, 1) := by decide +kernel
theorem dX7_label_51 : decode cX7_label 51 = .ok (.getfield 12, 3) := by decide +kernel
theorem dX7_label_54 : decode cX7_label 54 = .ok (.iload_n 1, 1) := by decide +kernel
theorem dX7_label_55 : decode cX7_label 55 = .ok (.invokevirtual 68, 3) := by decide +kernel
theorem dX7_label_58 : decode cX7_label 58 = .ok (.checkcast 72, 3) := by decide +kernel
theorem dX7_label_61 : decode cX7_label 61 = .ok (.iconst 1, 1) := by decide +kernel
theorem dX7_label_62 : decode cX7_label 62 = .ok (.iload_n 2, 1) := by decide +kernel
theorem dX7_label_63 : decode cX7_label 63 = .ok (.iastore, 1) := by decide +kernel
theorem dX7_label_64 : decode cX7_label 64 = .ok (.iload_n 3, 1) := by decide +kernel
theorem dX7_label_65 : decode cX7_label 65 = .ok (.ireturn, 1) := by decide +kernel
theorem dX7_price_0 : decode cX7_price 0 = .ok (.aload_n 0, 1) := by decide +kernel
theorem dX7_price_1 : decode cX7_price 1 = .ok (.iconst 0, 1) := by decide +kernel
theorem dX7_price_2 : decode cX7_price 2 = .ok (.putfield 41, 3) := by decide +kernel
theorem dX7_price_5 : decode cX7_price 5 = .ok (.iload_n 1, 1) := by decide +kernel
theorem dX7_price_6 : decode cX7_price 6 = .ok (.iconst 1, 1) := by decide +kernel
theorem dX7_price_7 : decode cX7_price 7 = .ok (.bipush 50, 2) := by decide +kernel
theorem dX7_price_9 : decode cX7_price 9 = .ok (.invokestatic 48, 3) := by decide +kernel
theorem dX7_price_12 : decode cX7_price 12 = .ok (.ifCond .ne 9, 3) := by decide +kernel
theorem dX7_price_15 : decode cX7_price 15 = .ok (.aload_n 0, 1) := by decide +kernel
theorem dX7_price_16 : decode cX7_price 16 = .ok (.iconst 1, 1) := by decide +kernel
theorem dX7_price_17 : decode cX7_price 17 = .ok (.invokevirtual 56, 3) := by decide +kernel
theorem dX7_price_20 : decode cX7_price 20 = .ok (.ireturn, 1) := by decide +kernel
theorem dX7_price_21 : decode cX7_price 21 = .ok (.aload_n 0, 1) := by decide +kernel
theorem dX7_price_22 : decode cX7_price 22 = .ok (.getfield 37, 3) := by decide +kernel
theorem dX7_price_25 : decode cX7_price 25 = .ok (.istore_n 2, 1) := by decide +kernel
theorem dX7_price_26 : decode cX7_price 26 = .ok (.aload_n 0, 1) := by decide +kernel
theorem dX7_price_27 : decode cX7_price 27 = .ok (.iload_n 1, 1) := by decide +kernel
theorem dX7_price_28 : decode cX7_price 28 = .ok (.putfield 37, 3) := by decide +kernel
theorem dX7_price_31 : decode cX7_price 31 = .ok (.iload_n 2, 1) := by decide +kernel
theorem dX7_price_32 : decode cX7_price 32 = .ok (.ireturn, 1) := by decide +kernel
theorem dX7_bring_0 : decode cX7_bring 0 = .ok (.aload_n 0, 1) := by decide +kernel
theorem dX7_bring_1 : decode cX7_bring 1 = .ok (.iconst 0, 1) := by decide +kernel
theorem dX7_bring_2 : decode cX7_bring 2 = .ok (.putfield 41, 3) := by decide +kernel
theorem dX7_bring_5 : decode cX7_bring 5 = .ok (.aload_n 0, 1) := by decide +kernel
theorem dX7_bring_6 : decode cX7_bring 6 = .ok (.iload_n 1, 1) := by decide +kernel
theorem dX7_bring_7 : decode cX7_bring 7 = .ok (.invokevirtual 64, 3) := by decide +kernel
theorem dX7_bring_10 : decode cX7_bring 10 = .ok (.ifCond .ne 9, 3) := by decide +kernel
theorem dX7_bring_13 : decode cX7_bring 13 = .ok (.aload_n 0, 1) := by decide +kernel
theorem dX7_bring_14 : decode cX7_bring 14 = .ok (.iconst 1, 1) := by decide +kernel
theorem dX7_bring_15 : decode cX7_bring 15 = .ok (.invokevirtual 56, 3) := by decide +kernel
theorem dX7_bring_18 : decode cX7_bring 18 = .ok (.ireturn, 1) := by decide +kernel
theorem dX7_bring_19 : decode cX7_bring 19 = .ok (.iload_n 2, 1) := by decide +kernel
theorem dX7_bring_20 : decode cX7_bring 20 = .ok (.iconst 1, 1) := by decide +kernel
theorem dX7_bring_21 : decode cX7_bring 21 = .ok (.sipush 200, 3) := by decide +kernel
theorem dX7_bring_24 : decode cX7_bring 24 = .ok (.invokestatic 48, 3) := by decide +kernel
theorem dX7_bring_27 : decode cX7_bring 27 = .ok (.ifCond .eq 13, 3) := by decide +kernel
theorem dX7_bring_30 : decode cX7_bring 30 = .ok (.iload_n 3, 1) := by decide +kernel
theorem dX7_bring_31 : decode cX7_bring 31 = .ok (.iconst 0, 1) := by decide +kernel
theorem dX7_bring_32 : decode cX7_bring 32 = .ok (.bipush 100, 2) := by decide +kernel
theorem dX7_bring_34 : decode cX7_bring 34 = .ok (.invokestatic 48, 3) := by decide +kernel
theorem dX7_bring_37 : decode cX7_bring 37 = .ok (.ifCond .ne 9, 3) := by decide +kernel
theorem dX7_bring_40 : decode cX7_bring 40 = .ok (.aload_n 0, 1) := by decide +kernel
theorem dX7_bring_41 : decode cX7_bring 41 = .ok (.iconst 2, 1) := by decide +kernel
theorem dX7_bring_42 : decode cX7_bring 42 = .ok (.invokevirtual 56, 3) := by decide +kernel
theorem dX7_bring_45 : decode cX7_bring 45 = .ok (.ireturn, 1) := by decide +kernel
theorem dX7_bring_46 : decode cX7_bring 46 = .ok (.aload_n 0, 1) := by decide +kernel
theorem dX7_bring_47 : decode cX7_bring 47 = .ok (.getfield 16, 3) := by decide +kernel
theorem dX7_bring_50 : decode cX7_bring 50 = .ok (.invokevirtual 44, 3) := by decide +kernel
theorem dX7_bring_53 : decode cX7_bring 53 = .ok (.bipush 20, 2) := by decide +kernel
theorem dX7_bring_55 : decode cX7_bring 55 = .ok (.if_icmp .ne 9, 3) := by decide +kernel
theorem dX7_bring_58 : decode cX7_bring 58 = .ok (.aload_n 0, 1) := by decide +kernel
theorem dX7_bring_59 : decode cX7_bring 59 = .ok (.iconst 3, 1) := by decide +kernel
theorem dX7_bring_60 : decode cX7_bring 60 = .ok (.invokevirtual 56, 3) := by decide +kernel
theorem dX7_bring_63 : decode cX7_bring 63 = .ok (.ireturn, 1) := by decide +kernel
theorem dX7_bring_64 : decode cX7_bring 64 = .ok (.aload_n 0, 1) := by decide +kernel
theorem dX7_bring_65 : decode cX7_bring 65 = .ok (.getfield 12, 3) := by decide +kernel
theorem dX7_bring_68 : decode cX7_bring 68 = .ok (.iload_n 1, 1) := by decide +kernel
theorem dX7_bring_69 : decode cX7_bring 69 = .ok (.invokevirtual 68, 3) := by decide +kernel
theorem dX7_bring_72 : decode cX7_bring 72 = .ok (.checkcast 72, 3) := by decide +kernel
theorem dX7_bring_75 : decode cX7_bring 75 = .ok (.astore 4, 2) := by decide +kernel
theorem dX7_bring_77 : decode cX7_bring 77 = .ok (.iload_n 2, 1) := by decide +kernel
theorem dX7_bring_78 : decode cX7_bring 78 = .ok (.bipush 100, 2) := by decide +kernel
theorem dX7_bring_80 : decode cX7_bring 80 = .ok (.iload_n 3, 1) := by decide +kernel
theorem dX7_bring_81 : decode cX7_bring 81 = .ok (.isub, 1) := by decide +kernel
theorem dX7_bring_82 : decode cX7_bring 82 = .ok (.imul, 1) := by decide +kernel
theorem dX7_bring_83 : decode cX7_bring 83 = .ok (.sipush 200, 3) := by decide +kernel
theorem dX7_bring_86 : decode cX7_bring 86 = .ok (.idiv, 1) := by decide +kernel
theorem dX7_bring_87 : decode cX7_bring 87 = .ok (.istore 5, 2) := by decide +kernel
theorem dX7_bring_89 : decode cX7_bring 89 = .ok (.bipush 6, 2) := by decide +kernel
theorem dX7_bring_91 : decode cX7_bring 91 = .ok (.newarray .int, 2) := by decide +kernel
theorem dX7_bring_93 : decode cX7_bring 93 = .ok (.astore 6, 2) := by decide +kernel
theorem dX7_bring_95 : decode cX7_bring 95 = .ok (.aload 6, 2) := by decide +kernel
theorem dX7_bring_97 : decode cX7_bring 97 = .ok (.iconst 0, 1) := by decide +kernel
theorem dX7_bring_98 : decode cX7_bring 98 = .ok (.iload_n 1, 1) := by decide +kernel
theorem dX7_bring_99 : decode cX7_bring 99 = .ok (.iastore, 1) := by decide +kernel
theorem dX7_bring_100 : decode cX7_bring 100 = .ok (.aload 6, 2) := by decide +kernel
theorem dX7_bring_102 : decode cX7_bring 102 = .ok (.iconst 1, 1) := by decide +kernel
theorem dX7_bring_103 : decode cX7_bring 103 = .ok (.iload_n 2, 1) := by decide +kernel
theorem dX7_bring_104 : decode cX7_bring 104 = .ok (.iload 5, 2) := by decide +kernel
theorem dX7_bring_106 : decode cX7_bring 106 = .ok (.isub, 1) := by decide +kernel
theorem dX7_bring_107 : decode cX7_bring 107 = .ok (.iastore, 1) := by decide +kernel
theorem dX7_bring_108 : decode cX7_bring 108 = .ok (.aload 6, 2) := by decide +kernel
theorem dX7_bring_110 : decode cX7_bring 110 = .ok (.iconst 2, 1) := by decide +kernel
theorem dX7_bring_111 : decode cX7_bring 111 = .ok (.iload_n 3, 1) := by decide +kernel
theorem dX7_bring_112 : decode cX7_bring 112 = .ok (.iastore, 1) := by decide +kernel
theorem dX7_bring_113 : decode cX7_bring 113 = .ok (.aload 6, 2) := by decide +kernel
theorem dX7_bring_115 : decode cX7_bring 115 = .ok (.iconst 5, 1) := by decide +kernel
theorem dX7_bring_116 : decode cX7_bring 116 = .ok (.aload 4, 2) := by decide +kernel
theorem dX7_bring_118 : decode cX7_bring 118 = .ok (.iconst 1, 1) := by decide +kernel
theorem dX7_bring_119 : decode cX7_bring 119 = .ok (.iaload, 1) := by decide +kernel
theorem dX7_bring_120 : decode cX7_bring 120 = .ok (.aload_n 0, 1) := by decide +kernel
theorem dX7_bring_121 : decode cX7_bring 121 = .ok (.getfield 73, 3) := by decide +kernel
theorem dX7_bring_124 : decode cX7_bring 124 = .ok (.bipush 24, 2) := by decide +kernel
theorem dX7_bring_126 : decode cX7_bring 126 = .ok (.idiv, 1) := by decide +kernel
theorem dX7_bring_127 : decode cX7_bring 127 = .ok (.if_icmp .lt 7, 3) := by decide +kernel
theorem dX7_bring_130 : decode cX7_bring 130 = .ok (.iconst 1, 1) := by decide +kernel
theorem dX7_bring_131 : decode cX7_bring 131 = .ok (.goto 4, 3) := by decide +kernel
theorem dX7_bring_134 : decode cX7_bring 134 = .ok (.iconst 0, 1) := by decide +kernel
theorem dX7_bring_135 : decode cX7_bring 135 = .ok (.iastore, 1) := by decide +kernel
theorem dX7_bring_136 : decode cX7_bring 136 = .ok (.aload_n 0, 1) := by decide +kernel
theorem dX7_bring_137 : decode cX7_bring 137 = .ok (.getfield 16, 3) := by decide +kernel
theorem dX7_bring_140 : decode cX7_bring 140 = .ok (.aload 6, 2) := by decide +kernel
theorem dX7_bring_142 : decode cX7_bring 142 = .ok (.invokevirtual 60, 3) := by decide +kernel
theorem dX7_bring_145 : decode cX7_bring 145 = .ok (.pop, 1) := by decide +kernel
theorem dX7_bring_146 : decode cX7_bring 146 = .ok (.aload_n 0, 1) := by decide +kernel
theorem dX7_bring_147 : decode cX7_bring 147 = .ok (.dup, 1) := by decide +kernel
theorem dX7_bring_148 : decode cX7_bring 148 = .ok (.getfield 76, 3) := by decide +kernel
theorem dX7_bring_151 : decode cX7_bring 151 = .ok (.iload 5, 2) := by decide +kernel
theorem dX7_bring_153 : decode cX7_bring 153 = .ok (.iadd, 1) := by decide +kernel
theorem dX7_bring_154 : decode cX7_bring 154 = .ok (.putfield 76, 3) := by decide +kernel
theorem dX7_bring_157 : decode cX7_bring 157 = .ok (.aload 4, 2) := by decide +kernel
theorem dX7_bring_159 : decode cX7_bring 159 = .ok (.iconst 3, 1) := by decide +kernel
theorem dX7_bring_160 : decode cX7_bring 160 = .ok (.dup2, 1) := by decide +kernel
theorem dX7_bring_161 : decode cX7_bring 161 = .ok (.iaload, 1) := by decide +kernel
theorem dX7_bring_162 : decode cX7_bring 162 = .ok (.aload 6, 2) := by decide +kernel
theorem dX7_bring_164 : decode cX7_bring 164 = .ok (.iconst 1, 1) := by decide +kernel
theorem dX7_bring_165 : decode cX7_bring 165 = .ok (.iaload, 1) := by decide +kernel
theorem dX7_bring_166 : decode cX7_bring 166 = .ok (.iadd, 1) := by decide +kernel
theorem dX7_bring_167 : decode cX7_bring 167 = .ok (.iastore, 1) := by decide +kernel
theorem dX7_bring_168 : decode cX7_bring 168 = .ok (.aload 4, 2) := by decide +kernel
theorem dX7_bring_170 : decode cX7_bring 170 = .ok (.iconst 2, 1) := by decide +kernel
theorem dX7_bring_171 : decode cX7_bring 171 = .ok (.dup2, 1) := by decide +kernel
theorem dX7_bring_172 : decode cX7_bring 172 = .ok (.iaload, 1) := by decide +kernel
theorem dX7_bring_173 : decode cX7_bring 173 = .ok (.aload 6, 2) := by decide +kernel
theorem dX7_bring_175 : decode cX7_bring 175 = .ok (.iconst 1, 1) := by decide +kernel
theorem dX7_bring_176 : decode cX7_bring 176 = .ok (.iaload, 1) := by decide +kernel
theorem dX7_bring_177 : decode cX7_bring 177 = .ok (.aload_n 0, 1) := by decide +kernel
theorem dX7_bring_178 : decode cX7_bring 178 = .ok (.getfield 37, 3) := by decide +kernel
theorem dX7_bring_181 : decode cX7_bring 181 = .ok (.imul, 1) := by decide +kernel
theorem dX7_bring_182 : decode cX7_bring 182 = .ok (.iadd, 1) := by decide +kernel
theorem dX7_bring_183 : decode cX7_bring 183 = .ok (.iastore, 1) := by decide +kernel
theorem dX7_bring_184 : decode cX7_bring 184 = .ok (.aload_n 0, 1) := by decide +kernel
theorem dX7_bring_185 : decode cX7_bring 185 = .ok (.dup, 1) := by decide +kernel
theorem dX7_bring_186 : decode cX7_bring 186 = .ok (.getfield 79, 3) := by decide +kernel
theorem dX7_bring_189 : decode cX7_bring 189 = .ok (.aload 6, 2) := by decide +kernel
theorem dX7_bring_191 : decode cX7_bring 191 = .ok (.iconst 1, 1) := by decide +kernel
theorem dX7_bring_192 : decode cX7_bring 192 = .ok (.iaload, 1) := by decide +kernel
theorem dX7_bring_193 : decode cX7_bring 193 = .ok (.aload_n 0, 1) := by decide +kernel
theorem dX7_bring_194 : decode cX7_bring 194 = .ok (.getfield 37, 3) := by decide +kernel
theorem dX7_bring_197 : decode cX7_bring 197 = .ok (.imul, 1) := by decide +kernel
theorem dX7_bring_198 : decode cX7_bring 198 = .ok (.isub, 1) := by decide +kernel
theorem dX7_bring_199 : decode cX7_bring 199 = .ok (.putfield 79, 3) := by decide +kernel
theorem dX7_bring_202 : decode cX7_bring 202 = .ok (.aload_n 0, 1) := by decide +kernel
theorem dX7_bring_203 : decode cX7_bring 203 = .ok (.getfield 16, 3) := by decide +kernel
theorem dX7_bring_206 : decode cX7_bring 206 = .ok (.invokevirtual 44, 3) := by decide +kernel
theorem dX7_bring_209 : decode cX7_bring 209 = .ok (.iconst 1, 1) := by decide +kernel
theorem dX7_bring_210 : decode cX7_bring 210 = .ok (.isub, 1) := by decide +kernel
theorem dX7_bring_211 : decode cX7_bring 211 = .ok (.ireturn, 1) := by decide +kernel
theorem dX7_dries_0 : decode cX7_dries 0 = .ok (.iload_n 1, 1) := by decide +kernel
theorem dX7_dries_1 : decode cX7_dries 1 = .ok (.bipush 10, 2) := by decide +kernel
theorem dX7_dries_3 : decode cX7_dries 3 = .ok (.imul, 1) := by decide +kernel
theorem dX7_dries_4 : decode cX7_dries 4 = .ok (.bipush 10, 2) := by decide +kernel
theorem dX7_dries_6 : decode cX7_dries 6 = .ok (.aload_n 0, 1) := by decide +kernel
theorem dX7_dries_7 : decode cX7_dries 7 = .ok (.iconst 0, 1) := by decide +kernel
theorem dX7_dries_8 : decode cX7_dries 8 = .ok (.iaload, 1) := by decide +kernel
theorem dX7_dries_9 : decode cX7_dries 9 = .ok (.aload_n 0, 1) := by decide +kernel
theorem dX7_dries_10 : decode cX7_dries 10 = .ok (.bipush 8, 2) := by decide +kernel
theorem dX7_dries_12 : decode cX7_dries 12 = .ok (.iaload, 1) := by decide +kernel
theorem dX7_dries_13 : decode cX7_dries 13 = .ok (.idiv, 1) := by decide +kernel
theorem dX7_dries_14 : decode cX7_dries 14 = .ok (.iadd, 1) := by decide +kernel
theorem dX7_dries_15 : decode cX7_dries 15 = .ok (.idiv, 1) := by decide +kernel
theorem dX7_dries_16 : decode cX7_dries 16 = .ok (.istore_n 2, 1) := by decide +kernel
theorem dX7_dries_17 : decode cX7_dries 17 = .ok (.aload_n 0, 1) := by decide +kernel
theorem dX7_dries_18 : decode cX7_dries 18 = .ok (.bipush 9, 2) := by decide +kernel
theorem dX7_dries_20 : decode cX7_dries 20 = .ok (.iaload, 1) := by decide +kernel
theorem dX7_dries_21 : decode cX7_dries 21 = .ok (.iconst 1, 1) := by decide +kernel
theorem dX7_dries_22 : decode cX7_dries 22 = .ok (.if_icmp .ne 9, 3) := by decide +kernel
theorem dX7_dries_25 : decode cX7_dries 25 = .ok (.iload_n 2, 1) := by decide +kernel
theorem dX7_dries_26 : decode cX7_dries 26 = .ok (.iconst 4, 1) := by decide +kernel
theorem dX7_dries_27 : decode cX7_dries 27 = .ok (.idiv, 1) := by decide +kernel
theorem dX7_dries_28 : decode cX7_dries 28 = .ok (.goto 4, 3) := by decide +kernel
theorem dX7_dries_31 : decode cX7_dries 31 = .ok (.iload_n 2, 1) := by decide +kernel
theorem dX7_dries_32 : decode cX7_dries 32 = .ok (.ireturn, 1) := by decide +kernel
theorem dX7_dry_0 : decode cX7_dry 0 = .ok (.iload_n 1, 1) := by decide +kernel
theorem dX7_dry_1 : decode cX7_dry 1 = .ok (.bipush 8, 2) := by decide +kernel
theorem dX7_dry_3 : decode cX7_dry 3 = .ok (.bipush 17, 2) := by decide +kernel
theorem dX7_dry_5 : decode cX7_dry 5 = .ok (.invokestatic 48, 3) := by decide +kernel
theorem dX7_dry_8 : decode cX7_dry 8 = .ok (.ifCond .eq 20, 3) := by decide +kernel
theorem dX7_dry_11 : decode cX7_dry 11 = .ok (.aload_n 0, 1) := by decide +kernel
theorem dX7_dry_12 : decode cX7_dry 12 = .ok (.iconst 5, 1) := by decide +kernel
theorem dX7_dry_13 : decode cX7_dry 13 = .ok (.bipush 80, 2) := by decide +kernel
theorem dX7_dry_15 : decode cX7_dry 15 = .ok (.aload_n 0, 1) := by decide +kernel
theorem dX7_dry_16 : decode cX7_dry 16 = .ok (.iconst 5, 1) := by decide +kernel
theorem dX7_dry_17 : decode cX7_dry 17 = .ok (.iaload, 1) := by decide +kernel
theorem dX7_dry_18 : decode cX7_dry 18 = .ok (.aload_n 0, 1) := by decide +kernel
theorem dX7_dry_19 : decode cX7_dry 19 = .ok (.iload_n 2, 1) := by decide +kernel
theorem dX7_dry_20 : decode cX7_dry 20 = .ok (.invokestatic 82, 3) := by decide +kernel
theorem dX7_dry_23 : decode cX7_dry 23 = .ok (.isub, 1) := by decide +kernel
theorem dX7_dry_24 : decode cX7_dry 24 = .ok (.invokestatic 86, 3) := by decide +kernel
theorem dX7_dry_27 : decode cX7_dry 27 = .ok (.iastore, 1) := by decide +kernel
theorem dX7_dry_28 : decode cX7_dry 28 = .ok (.return_, 1) := by decide +kernel
theorem dX7_rises_0 : decode cX7_rises 0 = .ok (.iload_n 1, 1) := by decide +kernel
theorem dX7_rises_1 : decode cX7_rises 1 = .ok (.iconst 4, 1) := by decide +kernel
theorem dX7_rises_2 : decode cX7_rises 2 = .ok (.idiv, 1) := by decide +kernel
theorem dX7_rises_3 : decode cX7_rises 3 = .ok (.aload_n 0, 1) := by decide +kernel
theorem dX7_rises_4 : decode cX7_rises 4 = .ok (.iconst 0, 1) := by decide +kernel
theorem dX7_rises_5 : decode cX7_rises 5 = .ok (.iaload, 1) := by decide +kernel
theorem dX7_rises_6 : decode cX7_rises 6 = .ok (.bipush 100, 2) := by decide +kernel
theorem dX7_rises_8 : decode cX7_rises 8 = .ok (.idiv, 1) := by decide +kernel
theorem dX7_rises_9 : decode cX7_rises 9 = .ok (.iadd, 1) := by decide +kernel
theorem dX7_rises_10 : decode cX7_rises 10 = .ok (.ireturn, 1) := by decide +kernel
theorem dX7_pass_0 : decode cX7_pass 0 = .ok (.iconst 0, 1) := by decide +kernel
theorem dX7_pass_1 : decode cX7_pass 1 = .ok (.istore_n 3, 1) := by decide +kernel
theorem dX7_pass_2 : decode cX7_pass 2 = .ok (.aload_n 0, 1) := by decide +kernel
theorem dX7_pass_3 : decode cX7_pass 3 = .ok (.dup, 1) := by decide +kernel
theorem dX7_pass_4 : decode cX7_pass 4 = .ok (.getfield 73, 3) := by decide +kernel
theorem dX7_pass_7 : decode cX7_pass 7 = .ok (.iconst 1, 1) := by decide +kernel
theorem dX7_pass_8 : decode cX7_pass 8 = .ok (.iadd, 1) := by decide +kernel
theorem dX7_pass_9 : decode cX7_pass 9 = .ok (.putfield 73, 3) := by decide +kernel
theorem dX7_pass_12 : decode cX7_pass 12 = .ok (.aload_n 0, 1) := by decide +kernel
theorem dX7_pass_13 : decode cX7_pass 13 = .ok (.getfield 73, 3) := by decide +kernel
theorem dX7_pass_16 : decode cX7_pass 16 = .ok (.bipush 24, 2) := by decide +kernel
theorem dX7_pass_18 : decode cX7_pass 18 = .ok (.irem, 1) := by decide +kernel
theorem dX7_pass_19 : decode cX7_pass 19 = .ok (.istore 4, 2) := by decide +kernel
theorem dX7_pass_21 : decode cX7_pass 21 = .ok (.aload_n 0, 1) := by decide +kernel
theorem dX7_pass_22 : decode cX7_pass 22 = .ok (.getfield 16, 3) := by decide +kernel
theorem dX7_pass_25 : decode cX7_pass 25 = .ok (.invokevirtual 92, 3) := by decide +kernel
theorem dX7_pass_28 : decode cX7_pass 28 = .ok (.astore 5, 2) := by decide +kernel
theorem dX7_pass_30 : decode cX7_pass 30 = .ok (.aload 5, 2) := by decide +kernel
theorem dX7_pass_32 : decode cX7_pass 32 = .ok (.invokeinterface 96 1, 5) := by decide +kernel
theorem dX7_pass_37 : decode cX7_pass 37 = .ok (.ifCond .eq 69, 3) := by decide +kernel
theorem dX7_pass_40 : decode cX7_pass 40 = .ok (.aload 5, 2) := by decide +kernel
theorem dX7_pass_42 : decode cX7_pass 42 = .ok (.invokeinterface 102 1, 5) := by decide +kernel
theorem dX7_pass_47 : decode cX7_pass 47 = .ok (.checkcast 72, 3) := by decide +kernel
theorem dX7_pass_50 : decode cX7_pass 50 = .ok (.astore 6, 2) := by decide +kernel
theorem dX7_pass_52 : decode cX7_pass 52 = .ok (.aload 6, 2) := by decide +kernel
theorem dX7_pass_54 : decode cX7_pass 54 = .ok (.iconst 3, 1) := by decide +kernel
theorem dX7_pass_55 : decode cX7_pass 55 = .ok (.iaload, 1) := by decide +kernel
theorem dX7_pass_56 : decode cX7_pass 56 = .ok (.ifCond .eq 6, 3) := by decide +kernel
theorem dX7_pass_59 : decode cX7_pass 59 = .ok (.goto (-29), 3) := by decide +kernel
theorem dX7_pass_62 : decode cX7_pass 62 = .ok (.aload 6, 2) := by decide +kernel
theorem dX7_pass_64 : decode cX7_pass 64 = .ok (.iconst 4, 1) := by decide +kernel
theorem dX7_pass_65 : decode cX7_pass 65 = .ok (.dup2, 1) := by decide +kernel
theorem dX7_pass_66 : decode cX7_pass 66 = .ok (.iaload, 1) := by decide +kernel
theorem dX7_pass_67 : decode cX7_pass 67 = .ok (.iconst 1, 1) := by decide +kernel
theorem dX7_pass_68 : decode cX7_pass 68 = .ok (.iadd, 1) := by decide +kernel
theorem dX7_pass_69 : decode cX7_pass 69 = .ok (.iastore, 1) := by decide +kernel
theorem dX7_pass_70 : decode cX7_pass 70 = .ok (.aload 6, 2) := by decide +kernel
theorem dX7_pass_72 : decode cX7_pass 72 = .ok (.iconst 4, 1) := by decide +kernel
theorem dX7_pass_73 : decode cX7_pass 73 = .ok (.iaload, 1) := by decide +kernel
theorem dX7_pass_74 : decode cX7_pass 74 = .ok (.bipush 24, 2) := by decide +kernel
theorem dX7_pass_76 : decode cX7_pass 76 = .ok (.if_icmp .gt 6, 3) := by decide +kernel
theorem dX7_pass_79 : decode cX7_pass 79 = .ok (.goto (-49), 3) := by decide +kernel
theorem dX7_pass_82 : decode cX7_pass 82 = .ok (.aload 6, 2) := by decide +kernel
theorem dX7_pass_84 : decode cX7_pass 84 = .ok (.iconst 3, 1) := by decide +kernel
theorem dX7_pass_85 : decode cX7_pass 85 = .ok (.iconst 3, 1) := by decide +kernel
theorem dX7_pass_86 : decode cX7_pass 86 = .ok (.iastore, 1) := by decide +kernel
theorem dX7_pass_87 : decode cX7_pass 87 = .ok (.aload_n 0, 1) := by decide +kernel
theorem dX7_pass_88 : decode cX7_pass 88 = .ok (.dup, 1) := by decide +kernel
theorem dX7_pass_89 : decode cX7_pass 89 = .ok (.getfield 106, 3) := by decide +kernel
theorem dX7_pass_92 : decode cX7_pass 92 = .ok (.aload 6, 2) := by decide +kernel
theorem dX7_pass_94 : decode cX7_pass 94 = .ok (.iconst 1, 1) := by decide +kernel
theorem dX7_pass_95 : decode cX7_pass 95 = .ok (.iaload, 1) := by decide +kernel
theorem dX7_pass_96 : decode cX7_pass 96 = .ok (.iadd, 1) := by decide +kernel
theorem dX7_pass_97 : decode cX7_pass 97 = .ok (.putfield 106, 3) := by decide +kernel
theorem dX7_pass_100 : decode cX7_pass 100 = .ok (.iinc 3 1, 3) := by decide +kernel
theorem dX7_pass_103 : decode cX7_pass 103 = .ok (.goto (-73), 3) := by decide +kernel
theorem dX7_pass_106 : decode cX7_pass 106 = .ok (.aload_n 0, 1) := by decide +kernel
theorem dX7_pass_107 : decode cX7_pass 107 = .ok (.getfield 21, 3) := by decide +kernel
theorem dX7_pass_110 : decode cX7_pass 110 = .ok (.astore 5, 2) := by decide +kernel
theorem dX7_pass_112 : decode cX7_pass 112 = .ok (.aload 5, 2) := by decide +kernel
theorem dX7_pass_114 : decode cX7_pass 114 = .ok (.arraylength, 1) := by decide +kernel
theorem dX7_pass_115 : decode cX7_pass 115 = .ok (.istore 6, 2) := by decide +kernel
theorem dX7_pass_117 : decode cX7_pass 117 = .ok (.iconst 0, 1) := by decide +kernel
theorem dX7_pass_118 : decode cX7_pass 118 = .ok (.istore 7, 2) := by decide +kernel
theorem dX7_pass_120 : decode cX7_pass 120 = .ok (.iload 7, 2) := by decide +kernel
theorem dX7_pass_122 : decode cX7_pass 122 = .ok (.iload 6, 2) := by decide +kernel
theorem dX7_pass_124 : decode cX7_pass 124 = .ok (.if_icmp .ge 47, 3) := by decide +kernel
theorem dX7_pass_127 : decode cX7_pass 127 = .ok (.aload 5, 2) := by decide +kernel
theorem dX7_pass_129 : decode cX7_pass 129 = .ok (.iload 7, 2) := by decide +kernel
theorem dX7_pass_131 : decode cX7_pass 131 = .ok (.aaload, 1) := by decide +kernel
theorem dX7_pass_132 : decode cX7_pass 132 = .ok (.astore 8, 2) := by decide +kernel
theorem dX7_pass_134 : decode cX7_pass 134 = .ok (.aload 8, 2) := by decide +kernel
theorem dX7_pass_136 : decode cX7_pass 136 = .ok (.iconst 0, 1) := by decide +kernel
theorem dX7_pass_137 : decode cX7_pass 137 = .ok (.iaload, 1) := by decide +kernel
theorem dX7_pass_138 : decode cX7_pass 138 = .ok (.ifCond .ne 6, 3) := by decide +kernel
theorem dX7_pass_141 : decode cX7_pass 141 = .ok (.goto 24, 3) := by decide +kernel
theorem dX7_pass_144 : decode cX7_pass 144 = .ok (.aload 8, 2) := by decide +kernel
theorem dX7_pass_146 : decode cX7_pass 146 = .ok (.iconst 2, 1) := by decide +kernel
theorem dX7_pass_147 : decode cX7_pass 147 = .ok (.dup2, 1) := by decide +kernel
theorem dX7_pass_148 : decode cX7_pass 148 = .ok (.iaload, 1) := by decide +kernel
theorem dX7_pass_149 : decode cX7_pass 149 = .ok (.iconst 1, 1) := by decide +kernel
theorem dX7_pass_150 : decode cX7_pass 150 = .ok (.iadd, 1) := by decide +kernel
theorem dX7_pass_151 : decode cX7_pass 151 = .ok (.iastore, 1) := by decide +kernel
theorem dX7_pass_152 : decode cX7_pass 152 = .ok (.aload 8, 2) := by decide +kernel
theorem dX7_pass_154 : decode cX7_pass 154 = .ok (.iconst 3, 1) := by decide +kernel
theorem dX7_pass_155 : decode cX7_pass 155 = .ok (.dup2, 1) := by decide +kernel
theorem dX7_pass_156 : decode cX7_pass 156 = .ok (.iaload, 1) := by decide +kernel
theorem dX7_pass_157 : decode cX7_pass 157 = .ok (.aload 8, 2) := by decide +kernel
theorem dX7_pass_159 : decode cX7_pass 159 = .ok (.iload_n 1, 1) := by decide +kernel
theorem dX7_pass_160 : decode cX7_pass 160 = .ok (.invokestatic 109, 3) := by decide +kernel
theorem dX7_pass_163 : decode cX7_pass 163 = .ok (.iadd, 1) := by decide +kernel
theorem dX7_pass_164 : decode cX7_pass 164 = .ok (.iastore, 1) := by decide +kernel
theorem dX7_pass_165 : decode cX7_pass 165 = .ok (.iinc 7 1, 3) := by decide +kernel
theorem dX7_pass_168 : decode cX7_pass 168 = .ok (.goto (-48), 3) := by decide +kernel
theorem dX7_pass_171 : decode cX7_pass 171 = .ok (.aload_n 0, 1) := by decide +kernel
theorem dX7_pass_172 : decode cX7_pass 172 = .ok (.getfield 24, 3) := by decide +kernel
theorem dX7_pass_175 : decode cX7_pass 175 = .ok (.invokevirtual 92, 3) := by decide +kernel
theorem dX7_pass_178 : decode cX7_pass 178 = .ok (.astore 5, 2) := by decide +kernel
theorem dX7_pass_180 : decode cX7_pass 180 = .ok (.aload 5, 2) := by decide +kernel
theorem dX7_pass_182 : decode cX7_pass 182 = .ok (.invokeinterface 96 1, 5) := by decide +kernel
theorem dX7_pass_187 : decode cX7_pass 187 = .ok (.ifCond .eq 106, 3) := by decide +kernel
theorem dX7_pass_190 : decode cX7_pass 190 = .ok (.aload 5, 2) := by decide +kernel
theorem dX7_pass_192 : decode cX7_pass 192 = .ok (.invokeinterface 102 1, 5) := by decide +kernel
theorem dX7_pass_197 : decode cX7_pass 197 = .ok (.checkcast 72, 3) := by decide +kernel
theorem dX7_pass_200 : decode cX7_pass 200 = .ok (.astore 6, 2) := by decide +kernel
theorem dX7_pass_202 : decode cX7_pass 202 = .ok (.aload 6, 2) := by decide +kernel
theorem dX7_pass_204 : decode cX7_pass 204 = .ok (.iconst 0, 1) := by decide +kernel
theorem dX7_pass_205 : decode cX7_pass 205 = .ok (.iaload, 1) := by decide +kernel
theorem dX7_pass_206 : decode cX7_pass 206 = .ok (.ifCond .ne 6, 3) := by decide +kernel
theorem dX7_pass_209 : decode cX7_pass 209 = .ok (.goto (-29), 3) := by decide +kernel
theorem dX7_pass_212 : decode cX7_pass 212 = .ok (.iload_n 2, 1) := by decide +kernel
theorem dX7_pass_213 : decode cX7_pass 213 = .ok (.ifCond .le 30, 3) := by decide +kernel
theorem dX7_pass_216 : decode cX7_pass 216 = .ok (.aload 6, 2) := by decide +kernel
theorem dX7_pass_218 : decode cX7_pass 218 = .ok (.bipush 9, 2) := by decide +kernel
theorem dX7_pass_220 : decode cX7_pass 220 = .ok (.iaload, 1) := by decide +kernel
theorem dX7_pass_221 : decode cX7_pass 221 = .ok (.ifCond .ne 22, 3) := by decide +kernel
theorem dX7_pass_224 : decode cX7_pass 224 = .ok (.aload 6, 2) := by decide +kernel
theorem dX7_pass_226 : decode cX7_pass 226 = .ok (.iconst 5, 1) := by decide +kernel
theorem dX7_pass_227 : decode cX7_pass 227 = .ok (.sipush 600, 3) := by decide +kernel
theorem dX7_pass_230 : decode cX7_pass 230 = .ok (.aload 6, 2) := by decide +kernel
theorem dX7_pass_232 : decode cX7_pass 232 = .ok (.iconst 5, 1) := by decide +kernel
theorem dX7_pass_233 : decode cX7_pass 233 = .ok (.iaload, 1) := by decide +kernel
theorem dX7_pass_234 : decode cX7_pass 234 = .ok (.iload_n 2, 1) := by decide +kernel
theorem dX7_pass_235 : decode cX7_pass 235 = .ok (.iadd, 1) := by decide +kernel
theorem dX7_pass_236 : decode cX7_pass 236 = .ok (.invokestatic 112, 3) := by decide +kernel
theorem dX7_pass_239 : decode cX7_pass 239 = .ok (.iastore, 1) := by decide +kernel
theorem dX7_pass_240 : decode cX7_pass 240 = .ok (.goto 11, 3) := by decide +kernel
theorem dX7_pass_243 : decode cX7_pass 243 = .ok (.aload 6, 2) := by decide +kernel
theorem dX7_pass_245 : decode cX7_pass 245 = .ok (.iload 4, 2) := by decide +kernel
theorem dX7_pass_247 : decode cX7_pass 247 = .ok (.iload_n 1, 1) := by decide +kernel
theorem dX7_pass_248 : decode cX7_pass 248 = .ok (.invokestatic 115, 3) := by decide +kernel
theorem dX7_pass_251 : decode cX7_pass 251 = .ok (.aload 6, 2) := by decide +kernel
theorem dX7_pass_253 : decode cX7_pass 253 = .ok (.bipush 6, 2) := by decide +kernel
theorem dX7_pass_255 : decode cX7_pass 255 = .ok (.dup2, 1) := by decide +kernel
theorem dX7_pass_256 : decode cX7_pass 256 = .ok (.iaload, 1) := by decide +kernel
theorem dX7_pass_257 : decode cX7_pass 257 = .ok (.iconst 1, 1) := by decide +kernel
theorem dX7_pass_258 : decode cX7_pass 258 = .ok (.iadd, 1) := by decide +kernel
theorem dX7_pass_259 : decode cX7_pass 259 = .ok (.iastore, 1) := by decide +kernel
theorem dX7_pass_260 : decode cX7_pass 260 = .ok (.aload 6, 2) := by decide +kernel
theorem dX7_pass_262 : decode cX7_pass 262 = .ok (.bipush 6, 2) := by decide +kernel
theorem dX7_pass_264 : decode cX7_pass 264 = .ok (.iaload, 1) := by decide +kernel
theorem dX7_pass_265 : decode cX7_pass 265 = .ok (.bipush 12, 2) := by decide +kernel
theorem dX7_pass_267 : decode cX7_pass 267 = .ok (.irem, 1) := by decide +kernel
theorem dX7_pass_268 : decode cX7_pass 268 = .ok (.ifCond .ne 22, 3) := by decide +kernel
theorem dX7_pass_271 : decode cX7_pass 271 = .ok (.aload 6, 2) := by decide +kernel
theorem dX7_pass_273 : decode cX7_pass 273 = .ok (.iconst 5, 1) := by decide +kernel
theorem dX7_pass_274 : decode cX7_pass 274 = .ok (.iaload, 1) := by decide +kernel
theorem dX7_pass_275 : decode cX7_pass 275 = .ok (.sipush 250, 3) := by decide +kernel
theorem dX7_pass_278 : decode cX7_pass 278 = .ok (.if_icmp .le 12, 3) := by decide +kernel
theorem dX7_pass_281 : decode cX7_pass 281 = .ok (.aload 6, 2) := by decide +kernel
theorem dX7_pass_283 : decode cX7_pass 283 = .ok (.bipush 7, 2) := by decide +kernel
theorem dX7_pass_285 : decode cX7_pass 285 = .ok (.dup2, 1) := by decide +kernel
theorem dX7_pass_286 : decode cX7_pass 286 = .ok (.iaload, 1) := by decide +kernel
theorem dX7_pass_287 : decode cX7_pass 287 = .ok (.iconst 1, 1) := by decide +kernel
theorem dX7_pass_288 : decode cX7_pass 288 = .ok (.iadd, 1) := by decide +kernel
theorem dX7_pass_289 : decode cX7_pass 289 = .ok (.iastore, 1) := by decide +kernel
theorem dX7_pass_290 : decode cX7_pass 290 = .ok (.goto (-110), 3) := by decide +kernel
theorem dX7_pass_293 : decode cX7_pass 293 = .ok (.iload 4, 2) := by decide +kernel
theorem dX7_pass_295 : decode cX7_pass 295 = .ok (.ifCond .ne 49, 3) := by decide +kernel
theorem dX7_pass_298 : decode cX7_pass 298 = .ok (.aload_n 0, 1) := by decide +kernel
theorem dX7_pass_299 : decode cX7_pass 299 = .ok (.getfield 27, 3) := by decide +kernel
theorem dX7_pass_302 : decode cX7_pass 302 = .ok (.invokevirtual 92, 3) := by decide +kernel
theorem dX7_pass_305 : decode cX7_pass 305 = .ok (.astore 5, 2) := by decide +kernel
theorem dX7_pass_307 : decode cX7_pass 307 = .ok (.aload 5, 2) := by decide +kernel
theorem dX7_pass_309 : decode cX7_pass 309 = .ok (.invokeinterface 96 1, 5) := by decide +kernel
theorem dX7_pass_314 : decode cX7_pass 314 = .ok (.ifCond .eq 30, 3) := by decide +kernel
theorem dX7_pass_317 : decode cX7_pass 317 = .ok (.aload 5, 2) := by decide +kernel
theorem dX7_pass_319 : decode cX7_pass 319 = .ok (.invokeinterface 102 1, 5) := by decide +kernel
theorem dX7_pass_324 : decode cX7_pass 324 = .ok (.checkcast 72, 3) := by decide +kernel
theorem dX7_pass_327 : decode cX7_pass 327 = .ok (.astore 6, 2) := by decide +kernel
theorem dX7_pass_329 : decode cX7_pass 329 = .ok (.aload 6, 2) := by decide +kernel
theorem dX7_pass_331 : decode cX7_pass 331 = .ok (.iconst 2, 1) := by decide +kernel
theorem dX7_pass_332 : decode cX7_pass 332 = .ok (.dup2, 1) := by decide +kernel
theorem dX7_pass_333 : decode cX7_pass 333 = .ok (.iaload, 1) := by decide +kernel
theorem dX7_pass_334 : decode cX7_pass 334 = .ok (.aload 6, 2) := by decide +kernel
theorem dX7_pass_336 : decode cX7_pass 336 = .ok (.bipush 10, 2) := by decide +kernel
theorem dX7_pass_338 : decode cX7_pass 338 = .ok (.iaload, 1) := by decide +kernel
theorem dX7_pass_339 : decode cX7_pass 339 = .ok (.iadd, 1) := by decide +kernel
theorem dX7_pass_340 : decode cX7_pass 340 = .ok (.iastore, 1) := by decide +kernel
theorem dX7_pass_341 : decode cX7_pass 341 = .ok (.goto (-34), 3) := by decide +kernel
theorem dX7_pass_344 : decode cX7_pass 344 = .ok (.iload_n 3, 1) := by decide +kernel
theorem dX7_pass_345 : decode cX7_pass 345 = .ok (.ireturn, 1) := by decide +kernel
theorem dX7_pass__0 : decode cX7_pass_ 0 = .ok (.aload_n 0, 1) := by decide +kernel
theorem dX7_pass__1 : decode cX7_pass_ 1 = .ok (.iconst 0, 1) := by decide +kernel
theorem dX7_pass__2 : decode cX7_pass_ 2 = .ok (.putfield 41, 3) := by decide +kernel
theorem dX7_pass__5 : decode cX7_pass_ 5 = .ok (.iload_n 1, 1) := by decide +kernel
theorem dX7_pass__6 : decode cX7_pass_ 6 = .ok (.iconst 1, 1) := by decide +kernel
theorem dX7_pass__7 : decode cX7_pass_ 7 = .ok (.bipush 100, 2) := by decide +kernel
theorem dX7_pass__9 : decode cX7_pass_ 9 = .ok (.invokestatic 48, 3) := by decide +kernel
theorem dX7_pass__12 : decode cX7_pass_ 12 = .ok (.ifCond .eq 20, 3) := by decide +kernel
theorem dX7_pass__15 : decode cX7_pass_ 15 = .ok (.iload_n 2, 1) := by decide +kernel
theorem dX7_pass__16 : decode cX7_pass_ 16 = .ok (.invokestatic 119, 3) := by decide +kernel
theorem dX7_pass__19 : decode cX7_pass_ 19 = .ok (.ifCond .eq 13, 3) := by decide +kernel
theorem dX7_pass__22 : decode cX7_pass_ 22 = .ok (.iload_n 3, 1) := by decide +kernel
theorem dX7_pass__23 : decode cX7_pass_ 23 = .ok (.iconst 0, 1) := by decide +kernel
theorem dX7_pass__24 : decode cX7_pass_ 24 = .ok (.bipush 20, 2) := by decide +kernel
theorem dX7_pass__26 : decode cX7_pass_ 26 = .ok (.invokestatic 48, 3) := by decide +kernel
theorem dX7_pass__29 : decode cX7_pass_ 29 = .ok (.ifCond .ne 9, 3) := by decide +kernel
theorem dX7_pass__32 : decode cX7_pass_ 32 = .ok (.aload_n 0, 1) := by decide +kernel
theorem dX7_pass__33 : decode cX7_pass_ 33 = .ok (.iconst 1, 1) := by decide +kernel
theorem dX7_pass__34 : decode cX7_pass_ 34 = .ok (.invokevirtual 56, 3) := by decide +kernel
theorem dX7_pass__37 : decode cX7_pass_ 37 = .ok (.ireturn, 1) := by decide +kernel
theorem dX7_pass__38 : decode cX7_pass_ 38 = .ok (.aload_n 0, 1) := by decide +kernel
theorem dX7_pass__39 : decode cX7_pass_ 39 = .ok (.getfield 73, 3) := by decide +kernel
theorem dX7_pass__42 : decode cX7_pass_ 42 = .ok (.iload_n 1, 1) := by decide +kernel
theorem dX7_pass__43 : decode cX7_pass_ 43 = .ok (.iadd, 1) := by decide +kernel
theorem dX7_pass__44 : decode cX7_pass_ 44 = .ok (.sipush 20000, 3) := by decide +kernel
theorem dX7_pass__47 : decode cX7_pass_ 47 = .ok (.if_icmp .le 9, 3) := by decide +kernel
theorem dX7_pass__50 : decode cX7_pass_ 50 = .ok (.aload_n 0, 1) := by decide +kernel
theorem dX7_pass__51 : decode cX7_pass_ 51 = .ok (.iconst 2, 1) := by decide +kernel
theorem dX7_pass__52 : decode cX7_pass_ 52 = .ok (.invokevirtual 56, 3) := by decide +kernel
theorem dX7_pass__55 : decode cX7_pass_ 55 = .ok (.ireturn, 1) := by decide +kernel
theorem dX7_pass__56 : decode cX7_pass_ 56 = .ok (.iconst 0, 1) := by decide +kernel
theorem dX7_pass__57 : decode cX7_pass_ 57 = .ok (.istore 4, 2) := by decide +kernel
theorem dX7_pass__59 : decode cX7_pass_ 59 = .ok (.iconst 0, 1) := by decide +kernel
theorem dX7_pass__60 : decode cX7_pass_ 60 = .ok (.istore 5, 2) := by decide +kernel
theorem dX7_pass__62 : decode cX7_pass_ 62 = .ok (.iload 5, 2) := by decide +kernel
theorem dX7_pass__64 : decode cX7_pass_ 64 = .ok (.iload_n 1, 1) := by decide +kernel
theorem dX7_pass__65 : decode cX7_pass_ 65 = .ok (.if_icmp .ge 20, 3) := by decide +kernel
theorem dX7_pass__68 : decode cX7_pass_ 68 = .ok (.iload 4, 2) := by decide +kernel
theorem dX7_pass__70 : decode cX7_pass_ 70 = .ok (.aload_n 0, 1) := by decide +kernel
theorem dX7_pass__71 : decode cX7_pass_ 71 = .ok (.iload_n 2, 1) := by decide +kernel
theorem dX7_pass__72 : decode cX7_pass_ 72 = .ok (.iload_n 3, 1) := by decide +kernel
theorem dX7_pass__73 : decode cX7_pass_ 73 = .ok (.invokevirtual 122, 3) := by decide +kernel
theorem dX7_pass__76 : decode cX7_pass_ 76 = .ok (.iadd, 1) := by decide +kernel
theorem dX7_pass__77 : decode cX7_pass_ 77 = .ok (.istore 4, 2) := by decide +kernel
theorem dX7_pass__79 : decode cX7_pass_ 79 = .ok (.iinc 5 1, 3) := by decide +kernel
theorem dX7_pass__82 : decode cX7_pass_ 82 = .ok (.goto (-20), 3) := by decide +kernel
theorem dX7_pass__85 : decode cX7_pass_ 85 = .ok (.iload 4, 2) := by decide +kernel
theorem dX7_pass__87 : decode cX7_pass_ 87 = .ok (.ireturn, 1) := by decide +kernel
theorem dX7_bed_0 : decode cX7_bed 0 = .ok (.aload_n 0, 1) := by decide +kernel
theorem dX7_bed_1 : decode cX7_bed 1 = .ok (.iconst 0, 1) := by decide +kernel
theorem dX7_bed_2 : decode cX7_bed 2 = .ok (.putfield 41, 3) := by decide +kernel
theorem dX7_bed_5 : decode cX7_bed 5 = .ok (.iload_n 1, 1) := by decide +kernel
theorem dX7_bed_6 : decode cX7_bed 6 = .ok (.iconst 5, 1) := by decide +kernel
theorem dX7_bed_7 : decode cX7_bed 7 = .ok (.bipush 40, 2) := by decide +kernel
theorem dX7_bed_9 : decode cX7_bed 9 = .ok (.invokestatic 48, 3) := by decide +kernel
theorem dX7_bed_12 : decode cX7_bed 12 = .ok (.ifCond .ne 9, 3) := by decide +kernel
theorem dX7_bed_15 : decode cX7_bed 15 = .ok (.aload_n 0, 1) := by decide +kernel
theorem dX7_bed_16 : decode cX7_bed 16 = .ok (.iconst 1, 1) := by decide +kernel
theorem dX7_bed_17 : decode cX7_bed 17 = .ok (.invokevirtual 56, 3) := by decide +kernel
theorem dX7_bed_20 : decode cX7_bed 20 = .ok (.ireturn, 1) := by decide +kernel
theorem dX7_bed_21 : decode cX7_bed 21 = .ok (.aload_n 0, 1) := by decide +kernel
theorem dX7_bed_22 : decode cX7_bed 22 = .ok (.getfield 24, 3) := by decide +kernel
theorem dX7_bed_25 : decode cX7_bed 25 = .ok (.invokevirtual 44, 3) := by decide +kernel
theorem dX7_bed_28 : decode cX7_bed 28 = .ok (.iconst 5, 1) := by decide +kernel
theorem dX7_bed_29 : decode cX7_bed 29 = .ok (.if_icmp .ne 9, 3) := by decide +kernel
theorem dX7_bed_32 : decode cX7_bed 32 = .ok (.aload_n 0, 1) := by decide +kernel
theorem dX7_bed_33 : decode cX7_bed 33 = .ok (.iconst 2, 1) := by decide +kernel
theorem dX7_bed_34 : decode cX7_bed 34 = .ok (.invokevirtual 56, 3) := by decide +kernel
theorem dX7_bed_37 : decode cX7_bed 37 = .ok (.ireturn, 1) := by decide +kernel
theorem dX7_bed_38 : decode cX7_bed 38 = .ok (.bipush 23, 2) := by decide +kernel
theorem dX7_bed_40 : decode cX7_bed 40 = .ok (.newarray .int, 2) := by decide +kernel
theorem dX7_bed_42 : decode cX7_bed 42 = .ok (.astore_n 2, 1) := by decide +kernel
theorem dX7_bed_43 : decode cX7_bed 43 = .ok (.aload_n 2, 1) := by decide +kernel
theorem dX7_bed_44 : decode cX7_bed 44 = .ok (.bipush 8, 2) := by decide +kernel
theorem dX7_bed_46 : decode cX7_bed 46 = .ok (.iload_n 1, 1) := by decide +kernel
theorem dX7_bed_47 : decode cX7_bed 47 = .ok (.iastore, 1) := by decide +kernel
theorem dX7_bed_48 : decode cX7_bed 48 = .ok (.aload_n 0, 1) := by decide +kernel
theorem dX7_bed_49 : decode cX7_bed 49 = .ok (.getfield 24, 3) := by decide +kernel
theorem dX7_bed_52 : decode cX7_bed 52 = .ok (.aload_n 2, 1) := by decide +kernel
theorem dX7_bed_53 : decode cX7_bed 53 = .ok (.invokevirtual 60, 3) := by decide +kernel
theorem dX7_bed_56 : decode cX7_bed 56 = .ok (.pop, 1) := by decide +kernel
theorem dX7_bed_57 : decode cX7_bed 57 = .ok (.aload_n 0, 1) := by decide +kernel
theorem dX7_bed_58 : decode cX7_bed 58 = .ok (.getfield 24, 3) := by decide +kernel
theorem dX7_bed_61 : decode cX7_bed 61 = .ok (.invokevirtual 44, 3) := by decide +kernel
theorem dX7_bed_64 : decode cX7_bed 64 = .ok (.iconst 1, 1) := by decide +kernel
theorem dX7_bed_65 : decode cX7_bed 65 = .ok (.isub, 1) := by decide +kernel
theorem dX7_bed_66 : decode cX7_bed 66 = .ok (.ireturn, 1) := by decide +kernel
theorem dX7_pulp_0 : decode cX7_pulp 0 = .ok (.aload_n 0, 1) := by decide +kernel
theorem dX7_pulp_1 : decode cX7_pulp 1 = .ok (.iconst 0, 1) := by decide +kernel
theorem dX7_pulp_2 : decode cX7_pulp 2 = .ok (.putfield 41, 3) := by decide +kernel
theorem dX7_pulp_5 : decode cX7_pulp 5 = .ok (.aload_n 0, 1) := by decide +kernel
theorem dX7_pulp_6 : decode cX7_pulp 6 = .ok (.iload_n 1, 1) := by decide +kernel
theorem dX7_pulp_7 : decode cX7_pulp 7 = .ok (.invokevirtual 125, 3) := by decide +kernel
theorem dX7_pulp_10 : decode cX7_pulp 10 = .ok (.ifCond .eq 10, 3) := by decide +kernel
theorem dX7_pulp_13 : decode cX7_pulp 13 = .ok (.iload_n 2, 1) := by decide +kernel
theorem dX7_pulp_14 : decode cX7_pulp 14 = .ok (.invokestatic 128, 3) := by decide +kernel
theorem dX7_pulp_17 : decode cX7_pulp 17 = .ok (.ifCond .ne 9, 3) := by decide +kernel
theorem dX7_pulp_20 : decode cX7_pulp 20 = .ok (.aload_n 0, 1) := by decide +kernel
theorem dX7_pulp_21 : decode cX7_pulp 21 = .ok (.iconst 1, 1) := by decide +kernel
theorem dX7_pulp_22 : decode cX7_pulp 22 = .ok (.invokevirtual 56, 3) := by decide +kernel
theorem dX7_pulp_25 : decode cX7_pulp 25 = .ok (.ireturn, 1) := by decide +kernel
theorem dX7_pulp_26 : decode cX7_pulp 26 = .ok (.aload_n 0, 1) := by decide +kernel
theorem dX7_pulp_27 : decode cX7_pulp 27 = .ok (.getfield 16, 3) := by decide +kernel
theorem dX7_pulp_30 : decode cX7_pulp 30 = .ok (.iload_n 1, 1) := by decide +kernel
theorem dX7_pulp_31 : decode cX7_pulp 31 = .ok (.invokevirtual 68, 3) := by decide +kernel
theorem dX7_pulp_34 : decode cX7_pulp 34 = .ok (.checkcast 72, 3) := by decide +kernel
theorem dX7_pulp_37 : decode cX7_pulp 37 = .ok (.astore_n 3, 1) := by decide +kernel
theorem dX7_pulp_38 : decode cX7_pulp 38 = .ok (.aload_n 0, 1) := by decide +kernel
theorem dX7_pulp_39 : decode cX7_pulp 39 = .ok (.getfield 21, 3) := by decide +kernel
theorem dX7_pulp_42 : decode cX7_pulp 42 = .ok (.iload_n 2, 1) := by decide +kernel
theorem dX7_pulp_43 : decode cX7_pulp 43 = .ok (.aaload, 1) := by decide +kernel
theorem dX7_pulp_44 : decode cX7_pulp 44 = .ok (.astore 4, 2) := by decide +kernel
theorem dX7_pulp_46 : decode cX7_pulp 46 = .ok (.aload_n 3, 1) := by decide +kernel
theorem dX7_pulp_47 : decode cX7_pulp 47 = .ok (.iconst 1, 1) := by decide +kernel
theorem dX7_pulp_48 : decode cX7_pulp 48 = .ok (.iaload, 1) := by decide +kernel
theorem dX7_pulp_49 : decode cX7_pulp 49 = .ok (.iconst 2, 1) := by decide +kernel
theorem dX7_pulp_50 : decode cX7_pulp 50 = .ok (.idiv, 1) := by decide +kernel
theorem dX7_pulp_51 : decode cX7_pulp 51 = .ok (.istore 5, 2) := by decide +kernel
theorem dX7_pulp_53 : decode cX7_pulp 53 = .ok (.aload 4, 2) := by decide +kernel
theorem dX7_pulp_55 : decode cX7_pulp 55 = .ok (.iconst 0, 1) := by decide +kernel
theorem dX7_pulp_56 : decode cX7_pulp 56 = .ok (.iaload, 1) := by decide +kernel
theorem dX7_pulp_57 : decode cX7_pulp 57 = .ok (.ifCond .eq 25, 3) := by decide +kernel
theorem dX7_pulp_60 : decode cX7_pulp 60 = .ok (.aload 4, 2) := by decide +kernel
theorem dX7_pulp_62 : decode cX7_pulp 62 = .ok (.iconst 2, 1) := by decide +kernel
theorem dX7_pulp_63 : decode cX7_pulp 63 = .ok (.iaload, 1) := by decide +kernel
theorem dX7_pulp_64 : decode cX7_pulp 64 = .ok (.bipush 8, 2) := by decide +kernel
theorem dX7_pulp_66 : decode cX7_pulp 66 = .ok (.if_icmp .gt 20, 3) := by decide +kernel
theorem dX7_pulp_69 : decode cX7_pulp 69 = .ok (.aload 4, 2) := by decide +kernel
theorem dX7_pulp_71 : decode cX7_pulp 71 = .ok (.iconst 0, 1) := by decide +kernel
theorem dX7_pulp_72 : decode cX7_pulp 72 = .ok (.iaload, 1) := by decide +kernel
theorem dX7_pulp_73 : decode cX7_pulp 73 = .ok (.iload 5, 2) := by decide +kernel
theorem dX7_pulp_75 : decode cX7_pulp 75 = .ok (.iadd, 1) := by decide +kernel
theorem dX7_pulp_76 : decode cX7_pulp 76 = .ok (.sipush 300, 3) := by decide +kernel
theorem dX7_pulp_79 : decode cX7_pulp 79 = .ok (.if_icmp .gt 7, 3) := by decide +kernel
theorem dX7_pulp_82 : decode cX7_pulp 82 = .ok (.iconst 1, 1) := by decide +kernel
theorem dX7_pulp_83 : decode cX7_pulp 83 = .ok (.goto 4, 3) := by decide +kernel
theorem dX7_pulp_86 : decode cX7_pulp 86 = .ok (.iconst 0, 1) := by decide +kernel
theorem dX7_pulp_87 : decode cX7_pulp 87 = .ok (.istore 6, 2) := by decide +kernel
theorem dX7_pulp_89 : decode cX7_pulp 89 = .ok (.aload_n 3, 1) := by decide +kernel
theorem dX7_pulp_90 : decode cX7_pulp 90 = .ok (.iconst 3, 1) := by decide +kernel
theorem dX7_pulp_91 : decode cX7_pulp 91 = .ok (.iaload, 1) := by decide +kernel
theorem dX7_pulp_92 : decode cX7_pulp 92 = .ok (.ifCond .ne 13, 3) := by decide +kernel
theorem dX7_pulp_95 : decode cX7_pulp 95 = .ok (.iload 5, 2) := by decide +kernel
theorem dX7_pulp_97 : decode cX7_pulp 97 = .ok (.ifCond .eq 8, 3) := by decide +kernel
theorem dX7_pulp_100 : decode cX7_pulp 100 = .ok (.iload 6, 2) := by decide +kernel
theorem dX7_pulp_102 : decode cX7_pulp 102 = .ok (.ifCond .ne 9, 3) := by decide +kernel
theorem dX7_pulp_105 : decode cX7_pulp 105 = .ok (.aload_n 0, 1) := by decide +kernel
theorem dX7_pulp_106 : decode cX7_pulp 106 = .ok (.iconst 2, 1) := by decide +kernel
theorem dX7_pulp_107 : decode cX7_pulp 107 = .ok (.invokevirtual 56, 3) := by decide +kernel
theorem dX7_pulp_110 : decode cX7_pulp 110 = .ok (.ireturn, 1) := by decide +kernel
theorem dX7_pulp_111 : decode cX7_pulp 111 = .ok (.aload 4, 2) := by decide +kernel
theorem dX7_pulp_113 : decode cX7_pulp 113 = .ok (.aload_n 3, 1) := by decide +kernel
theorem dX7_pulp_114 : decode cX7_pulp 114 = .ok (.iconst 0, 1) := by decide +kernel
theorem dX7_pulp_115 : decode cX7_pulp 115 = .ok (.iaload, 1) := by decide +kernel
theorem dX7_pulp_116 : decode cX7_pulp 116 = .ok (.iload 5, 2) := by decide +kernel
theorem dX7_pulp_118 : decode cX7_pulp 118 = .ok (.aload_n 3, 1) := by decide +kernel
theorem dX7_pulp_119 : decode cX7_pulp 119 = .ok (.iconst 2, 1) := by decide +kernel
theorem dX7_pulp_120 : decode cX7_pulp 120 = .ok (.iaload, 1) := by decide +kernel
theorem dX7_pulp_121 : decode cX7_pulp 121 = .ok (.aload_n 3, 1) := by decide +kernel
theorem dX7_pulp_122 : decode cX7_pulp 122 = .ok (.iconst 5, 1) := by decide +kernel
theorem dX7_pulp_123 : decode cX7_pulp 123 = .ok (.iaload, 1) := by decide +kernel
theorem dX7_pulp_124 : decode cX7_pulp 124 = .ok (.iconst 1, 1) := by decide +kernel
theorem dX7_pulp_125 : decode cX7_pulp 125 = .ok (.if_icmp .ne 7, 3) := by decide +kernel
theorem dX7_pulp_128 : decode cX7_pulp 128 = .ok (.iconst 1, 1) := by decide +kernel
theorem dX7_pulp_129 : decode cX7_pulp 129 = .ok (.goto 4, 3) := by decide +kernel
theorem dX7_pulp_132 : decode cX7_pulp 132 = .ok (.iconst 0, 1) := by decide +kernel
theorem dX7_pulp_133 : decode cX7_pulp 133 = .ok (.invokestatic 131, 3) := by decide +kernel
theorem dX7_pulp_136 : decode cX7_pulp 136 = .ok (.invokestatic 135, 3) := by decide +kernel
theorem dX7_pulp_139 : decode cX7_pulp 139 = .ok (.aload_n 3, 1) := by decide +kernel
theorem dX7_pulp_140 : decode cX7_pulp 140 = .ok (.iconst 3, 1) := by decide +kernel
theorem dX7_pulp_141 : decode cX7_pulp 141 = .ok (.iconst 1, 1) := by decide +kernel
theorem dX7_pulp_142 : decode cX7_pulp 142 = .ok (.iastore, 1) := by decide +kernel
theorem dX7_pulp_143 : decode cX7_pulp 143 = .ok (.aload_n 0, 1) := by decide +kernel
theorem dX7_pulp_144 : decode cX7_pulp 144 = .ok (.dup, 1) := by decide +kernel
theorem dX7_pulp_145 : decode cX7_pulp 145 = .ok (.getfield 106, 3) := by decide +kernel
theorem dX7_pulp_148 : decode cX7_pulp 148 = .ok (.aload_n 3, 1) := by decide +kernel
theorem dX7_pulp_149 : decode cX7_pulp 149 = .ok (.iconst 1, 1) := by decide +kernel
theorem dX7_pulp_150 : decode cX7_pulp 150 = .ok (.iaload, 1) := by decide +kernel
theorem dX7_pulp_151 : decode cX7_pulp 151 = .ok (.iload 5, 2) := by decide +kernel
theorem dX7_pulp_153 : decode cX7_pulp 153 = .ok (.isub, 1) := by decide +kernel
theorem dX7_pulp_154 : decode cX7_pulp 154 = .ok (.iadd, 1) := by decide +kernel
theorem dX7_pulp_155 : decode cX7_pulp 155 = .ok (.putfield 106, 3) := by decide +kernel
theorem dX7_pulp_158 : decode cX7_pulp 158 = .ok (.aload 4, 2) := by decide +kernel
theorem dX7_pulp_160 : decode cX7_pulp 160 = .ok (.iconst 0, 1) := by decide +kernel
theorem dX7_pulp_161 : decode cX7_pulp 161 = .ok (.iaload, 1) := by decide +kernel
theorem dX7_pulp_162 : decode cX7_pulp 162 = .ok (.ireturn, 1) := by decide +kernel
theorem dX7_isRoom_0 : decode cX7_isRoom 0 = .ok (.aload_n 0, 1) := by decide +kernel
theorem dX7_isRoom_1 : decode cX7_isRoom 1 = .ok (.iconst 0, 1) := by decide +kernel
theorem dX7_isRoom_2 : decode cX7_isRoom 2 = .ok (.iaload, 1) := by decide +kernel
theorem dX7_isRoom_3 : decode cX7_isRoom 3 = .ok (.ifCond .ne 18, 3) := by decide +kernel
theorem dX7_isRoom_6 : decode cX7_isRoom 6 = .ok (.bipush 12, 2) := by decide +kernel
theorem dX7_isRoom_8 : decode cX7_isRoom 8 = .ok (.aload_n 0, 1) := by decide +kernel
theorem dX7_isRoom_9 : decode cX7_isRoom 9 = .ok (.bipush 8, 2) := by decide +kernel
theorem dX7_isRoom_11 : decode cX7_isRoom 11 = .ok (.iaload, 1) := by decide +kernel
theorem dX7_isRoom_12 : decode cX7_isRoom 12 = .ok (.imul, 1) := by decide +kernel
theorem dX7_isRoom_13 : decode cX7_isRoom 13 = .ok (.iload_n 1, 1) := by decide +kernel
theorem dX7_isRoom_14 : decode cX7_isRoom 14 = .ok (.if_icmp .lt 7, 3) := by decide +kernel
theorem dX7_isRoom_17 : decode cX7_isRoom 17 = .ok (.iconst 1, 1) := by decide +kernel
theorem dX7_isRoom_18 : decode cX7_isRoom 18 = .ok (.goto 4, 3) := by decide +kernel
theorem dX7_isRoom_21 : decode cX7_isRoom 21 = .ok (.iconst 0, 1) := by decide +kernel
theorem dX7_isRoom_22 : decode cX7_isRoom 22 = .ok (.ireturn, 1) := by decide +kernel
theorem dX7_lay_0 : decode cX7_lay 0 = .ok (.aload_n 0, 1) := by decide +kernel
theorem dX7_lay_1 : decode cX7_lay 1 = .ok (.aload_n 1, 1) := by decide +kernel
theorem dX7_lay_2 : decode cX7_lay 2 = .ok (.invokestatic 135, 3) := by decide +kernel
theorem dX7_lay_5 : decode cX7_lay 5 = .ok (.aload_n 0, 1) := by decide +kernel
theorem dX7_lay_6 : decode cX7_lay 6 = .ok (.iconst 3, 1) := by decide +kernel
theorem dX7_lay_7 : decode cX7_lay 7 = .ok (.aload_n 1, 1) := by decide +kernel
theorem dX7_lay_8 : decode cX7_lay 8 = .ok (.iconst 3, 1) := by decide +kernel
theorem dX7_lay_9 : decode cX7_lay 9 = .ok (.iaload, 1) := by decide +kernel
theorem dX7_lay_10 : decode cX7_lay 10 = .ok (.iastore, 1) := by decide +kernel
theorem dX7_lay_11 : decode cX7_lay 11 = .ok (.aload_n 0, 1) := by decide +kernel
theorem dX7_lay_12 : decode cX7_lay 12 = .ok (.iconst 4, 1) := by decide +kernel
theorem dX7_lay_13 : decode cX7_lay 13 = .ok (.iload_n 2, 1) := by decide +kernel
theorem dX7_lay_14 : decode cX7_lay 14 = .ok (.iastore, 1) := by decide +kernel
theorem dX7_lay_15 : decode cX7_lay 15 = .ok (.aload_n 0, 1) := by decide +kernel
theorem dX7_lay_16 : decode cX7_lay 16 = .ok (.iconst 5, 1) := by decide +kernel
theorem dX7_lay_17 : decode cX7_lay 17 = .ok (.iload_n 3, 1) := by decide +kernel
theorem dX7_lay_18 : decode cX7_lay 18 = .ok (.iastore, 1) := by decide +kernel
theorem dX7_lay_19 : decode cX7_lay 19 = .ok (.return_, 1) := by decide +kernel
theorem dX7_wash_0 : decode cX7_wash 0 = .ok (.aload_n 0, 1) := by decide +kernel
theorem dX7_wash_1 : decode cX7_wash 1 = .ok (.iconst 0, 1) := by decide +kernel
theorem dX7_wash_2 : decode cX7_wash 2 = .ok (.putfield 41, 3) := by decide +kernel
theorem dX7_wash_5 : decode cX7_wash 5 = .ok (.iload_n 1, 1) := by decide +kernel
theorem dX7_wash_6 : decode cX7_wash 6 = .ok (.invokestatic 128, 3) := by decide +kernel
theorem dX7_wash_9 : decode cX7_wash 9 = .ok (.ifCond .eq 11, 3) := by decide +kernel
theorem dX7_wash_12 : decode cX7_wash 12 = .ok (.aload_n 0, 1) := by decide +kernel
theorem dX7_wash_13 : decode cX7_wash 13 = .ok (.iload_n 2, 1) := by decide +kernel
theorem dX7_wash_14 : decode cX7_wash 14 = .ok (.invokevirtual 139, 3) := by decide +kernel
theorem dX7_wash_17 : decode cX7_wash 17 = .ok (.ifCond .ne 9, 3) := by decide +kernel
theorem dX7_wash_20 : decode cX7_wash 20 = .ok (.aload_n 0, 1) := by decide +kernel
theorem dX7_wash_21 : decode cX7_wash 21 = .ok (.iconst 1, 1) := by decide +kernel
theorem dX7_wash_22 : decode cX7_wash 22 = .ok (.invokevirtual 56, 3) := by decide +kernel
theorem dX7_wash_25 : decode cX7_wash 25 = .ok (.ireturn, 1) := by decide +kernel
theorem dX7_wash_26 : decode cX7_wash 26 = .ok (.aload_n 0, 1) := by decide +kernel
theorem dX7_wash_27 : decode cX7_wash 27 = .ok (.getfield 21, 3) := by decide +kernel
theorem dX7_wash_30 : decode cX7_wash 30 = .ok (.iload_n 1, 1) := by decide +kernel
theorem dX7_wash_31 : decode cX7_wash 31 = .ok (.aaload, 1) := by decide +kernel
theorem dX7_wash_32 : decode cX7_wash 32 = .ok (.astore 4, 2) := by decide +kernel
theorem dX7_wash_34 : decode cX7_wash 34 = .ok (.aload_n 0, 1) := by decide +kernel
theorem dX7_wash_35 : decode cX7_wash 35 = .ok (.getfield 24, 3) := by decide +kernel
theorem dX7_wash_38 : decode cX7_wash 38 = .ok (.iload_n 2, 1) := by decide +kernel
theorem dX7_wash_39 : decode cX7_wash 39 = .ok (.invokevirtual 68, 3) := by decide +kernel
theorem dX7_wash_42 : decode cX7_wash 42 = .ok (.checkcast 72, 3) := by decide +kernel
theorem dX7_wash_45 : decode cX7_wash 45 = .ok (.astore 5, 2) := by decide +kernel
theorem dX7_wash_47 : decode cX7_wash 47 = .ok (.aload 4, 2) := by decide +kernel
theorem dX7_wash_49 : decode cX7_wash 49 = .ok (.iconst 0, 1) := by decide +kernel
theorem dX7_wash_50 : decode cX7_wash 50 = .ok (.iaload, 1) := by decide +kernel
theorem dX7_wash_51 : decode cX7_wash 51 = .ok (.istore 6, 2) := by decide +kernel
theorem dX7_wash_53 : decode cX7_wash 53 = .ok (.iload 6, 2) := by decide +kernel
theorem dX7_wash_55 : decode cX7_wash 55 = .ok (.ifCond .eq 26, 3) := by decide +kernel
theorem dX7_wash_58 : decode cX7_wash 58 = .ok (.aload 5, 2) := by decide +kernel
theorem dX7_wash_60 : decode cX7_wash 60 = .ok (.iload 6, 2) := by decide +kernel
theorem dX7_wash_62 : decode cX7_wash 62 = .ok (.invokestatic 142, 3) := by decide +kernel
theorem dX7_wash_65 : decode cX7_wash 65 = .ok (.ifCond .eq 16, 3) := by decide +kernel
theorem dX7_wash_68 : decode cX7_wash 68 = .ok (.iload_n 3, 1) := by decide +kernel
theorem dX7_wash_69 : decode cX7_wash 69 = .ok (.ifCond .eq 18, 3) := by decide +kernel
theorem dX7_wash_72 : decode cX7_wash 72 = .ok (.aload 4, 2) := by decide +kernel
theorem dX7_wash_74 : decode cX7_wash 74 = .ok (.iconst 3, 1) := by decide +kernel
theorem dX7_wash_75 : decode cX7_wash 75 = .ok (.iaload, 1) := by decide +kernel
theorem dX7_wash_76 : decode cX7_wash 76 = .ok (.bipush 30, 2) := by decide +kernel
theorem dX7_wash_78 : decode cX7_wash 78 = .ok (.if_icmp .lt 9, 3) := by decide +kernel
theorem dX7_wash_81 : decode cX7_wash 81 = .ok (.aload_n 0, 1) := by decide +kernel
theorem dX7_wash_82 : decode cX7_wash 82 = .ok (.iconst 2, 1) := by decide +kernel
theorem dX7_wash_83 : decode cX7_wash 83 = .ok (.invokevirtual 56, 3) := by decide +kernel
theorem dX7_wash_86 : decode cX7_wash 86 = .ok (.ireturn, 1) := by decide +kernel
theorem dX7_wash_87 : decode cX7_wash 87 = .ok (.aload 5, 2) := by decide +kernel
theorem dX7_wash_89 : decode cX7_wash 89 = .ok (.aload 4, 2) := by decide +kernel
theorem dX7_wash_91 : decode cX7_wash 91 = .ok (.iload_n 3, 1) := by decide +kernel
theorem dX7_wash_92 : decode cX7_wash 92 = .ok (.ifCond .eq 7, 3) := by decide +kernel
theorem dX7_wash_95 : decode cX7_wash 95 = .ok (.iconst 1, 1) := by decide +kernel
theorem dX7_wash_96 : decode cX7_wash 96 = .ok (.goto 4, 3) := by decide +kernel
theorem dX7_wash_99 : decode cX7_wash 99 = .ok (.iconst 0, 1) := by decide +kernel
theorem dX7_wash_100 : decode cX7_wash 100 = .ok (.iload_n 3, 1) := by decide +kernel
theorem dX7_wash_101 : decode cX7_wash 101 = .ok (.ifCond .eq 9, 3) := by decide +kernel
theorem dX7_wash_104 : decode cX7_wash 104 = .ok (.sipush 570, 3) := by decide +kernel
theorem dX7_wash_107 : decode cX7_wash 107 = .ok (.goto 6, 3) := by decide +kernel
theorem dX7_wash_110 : decode cX7_wash 110 = .ok (.sipush 550, 3) := by decide +kernel
theorem dX7_wash_113 : decode cX7_wash 113 = .ok (.invokestatic 146, 3) := by decide +kernel
theorem dX7_wash_116 : decode cX7_wash 116 = .ok (.aload_n 0, 1) := by decide +kernel
theorem dX7_wash_117 : decode cX7_wash 117 = .ok (.dup, 1) := by decide +kernel
theorem dX7_wash_118 : decode cX7_wash 118 = .ok (.getfield 150, 3) := by decide +kernel
theorem dX7_wash_121 : decode cX7_wash 121 = .ok (.iload_n 3, 1) := by decide +kernel
theorem dX7_wash_122 : decode cX7_wash 122 = .ok (.ifCond .eq 7, 3) := by decide +kernel
theorem dX7_wash_125 : decode cX7_wash 125 = .ok (.iconst 0, 1) := by decide +kernel
theorem dX7_wash_126 : decode cX7_wash 126 = .ok (.goto 7, 3) := by decide +kernel
theorem dX7_wash_129 : decode cX7_wash 129 = .ok (.iconst 3, 1) := by decide +kernel
theorem dX7_wash_130 : decode cX7_wash 130 = .ok (.iload 6, 2) := by decide +kernel
theorem dX7_wash_132 : decode cX7_wash 132 = .ok (.imul, 1) := by decide +kernel
theorem dX7_wash_133 : decode cX7_wash 133 = .ok (.iadd, 1) := by decide +kernel
theorem dX7_wash_134 : decode cX7_wash 134 = .ok (.putfield 150, 3) := by decide +kernel
theorem dX7_wash_137 : decode cX7_wash 137 = .ok (.aload 4, 2) := by decide +kernel
theorem dX7_wash_139 : decode cX7_wash 139 = .ok (.invokestatic 153, 3) := by decide +kernel
theorem dX7_wash_142 : decode cX7_wash 142 = .ok (.iload 6, 2) := by decide +kernel
theorem dX7_wash_144 : decode cX7_wash 144 = .ok (.ireturn, 1) := by decide +kernel
theorem dX7_whole_0 : decode cX7_whole 0 = .ok (.aload_n 0, 1) := by decide +kernel
theorem dX7_whole_1 : decode cX7_whole 1 = .ok (.iconst 0, 1) := by decide +kernel
theorem dX7_whole_2 : decode cX7_whole 2 = .ok (.putfield 41, 3) := by decide +kernel
theorem dX7_whole_5 : decode cX7_whole 5 = .ok (.aload_n 0, 1) := by decide +kernel
theorem dX7_whole_6 : decode cX7_whole 6 = .ok (.iload_n 1, 1) := by decide +kernel
theorem dX7_whole_7 : decode cX7_whole 7 = .ok (.invokevirtual 125, 3) := by decide +kernel
theorem dX7_whole_10 : decode cX7_whole 10 = .ok (.ifCond .eq 11, 3) := by decide +kernel
theorem dX7_whole_13 : decode cX7_whole 13 = .ok (.aload_n 0, 1) := by decide +kernel
theorem dX7_whole_14 : decode cX7_whole 14 = .ok (.iload_n 2, 1) := by decide +kernel
theorem dX7_whole_15 : decode cX7_whole 15 = .ok (.invokevirtual 139, 3) := by decide +kernel
theorem dX7_whole_18 : decode cX7_whole 18 = .ok (.ifCond .ne 9, 3) := by decide +kernel
theorem dX7_whole_21 : decode cX7_whole 21 = .ok (.aload_n 0, 1) := by decide +kernel
theorem dX7_whole_22 : decode cX7_whole 22 = .ok (.iconst 1, 1) := by decide +kernel
theorem dX7_whole_23 : decode cX7_whole 23 = .ok (.invokevirtual 56, 3) := by decide +kernel
theorem dX7_whole_26 : decode cX7_whole 26 = .ok (.ireturn, 1) := by decide +kernel
theorem dX7_whole_27 : decode cX7_whole 27 = .ok (.aload_n 0, 1) := by decide +kernel
theorem dX7_whole_28 : decode cX7_whole 28 = .ok (.getfield 16, 3) := by decide +kernel
theorem dX7_whole_31 : decode cX7_whole 31 = .ok (.iload_n 1, 1) := by decide +kernel
theorem dX7_whole_32 : decode cX7_whole 32 = .ok (.invokevirtual 68, 3) := by decide +kernel
theorem dX7_whole_35 : decode cX7_whole 35 = .ok (.checkcast 72, 3) := by decide +kernel
theorem dX7_whole_38 : decode cX7_whole 38 = .ok (.astore_n 3, 1) := by decide +kernel
theorem dX7_whole_39 : decode cX7_whole 39 = .ok (.aload_n 0, 1) := by decide +kernel
theorem dX7_whole_40 : decode cX7_whole 40 = .ok (.getfield 24, 3) := by decide +kernel
theorem dX7_whole_43 : decode cX7_whole 43 = .ok (.iload_n 2, 1) := by decide +kernel
theorem dX7_whole_44 : decode cX7_whole 44 = .ok (.invokevirtual 68, 3) := by decide +kernel
theorem dX7_whole_47 : decode cX7_whole 47 = .ok (.checkcast 72, 3) := by decide +kernel
theorem dX7_whole_50 : decode cX7_whole 50 = .ok (.astore 4, 2) := by decide +kernel
theorem dX7_whole_52 : decode cX7_whole 52 = .ok (.aload_n 3, 1) := by decide +kernel
theorem dX7_whole_53 : decode cX7_whole 53 = .ok (.iconst 3, 1) := by decide +kernel
theorem dX7_whole_54 : decode cX7_whole 54 = .ok (.iaload, 1) := by decide +kernel
theorem dX7_whole_55 : decode cX7_whole 55 = .ok (.ifCond .ne 20, 3) := by decide +kernel
theorem dX7_whole_58 : decode cX7_whole 58 = .ok (.aload_n 3, 1) := by decide +kernel
theorem dX7_whole_59 : decode cX7_whole 59 = .ok (.iconst 1, 1) := by decide +kernel
theorem dX7_whole_60 : decode cX7_whole 60 = .ok (.iaload, 1) := by decide +kernel
theorem dX7_whole_61 : decode cX7_whole 61 = .ok (.ifCond .eq 14, 3) := by decide +kernel
theorem dX7_whole_64 : decode cX7_whole 64 = .ok (.aload 4, 2) := by decide +kernel
theorem dX7_whole_66 : decode cX7_whole 66 = .ok (.aload_n 3, 1) := by decide +kernel
theorem dX7_whole_67 : decode cX7_whole 67 = .ok (.iconst 1, 1) := by decide +kernel
theorem dX7_whole_68 : decode cX7_whole 68 = .ok (.iaload, 1) := by decide +kernel
theorem dX7_whole_69 : decode cX7_whole 69 = .ok (.invokestatic 142, 3) := by decide +kernel
theorem dX7_whole_72 : decode cX7_whole 72 = .ok (.ifCond .ne 9, 3) := by decide +kernel
theorem dX7_whole_75 : decode cX7_whole 75 = .ok (.aload_n 0, 1) := by decide +kernel
theorem dX7_whole_76 : decode cX7_whole 76 = .ok (.iconst 2, 1) := by decide +kernel
theorem dX7_whole_77 : decode cX7_whole 77 = .ok (.invokevirtual 56, 3) := by decide +kernel
theorem dX7_whole_80 : decode cX7_whole 80 = .ok (.ireturn, 1) := by decide +kernel
theorem dX7_whole_81 : decode cX7_whole 81 = .ok (.aload 4, 2) := by decide +kernel
theorem dX7_whole_83 : decode cX7_whole 83 = .ok (.aload_n 3, 1) := by decide +kernel
theorem dX7_whole_84 : decode cX7_whole 84 = .ok (.iconst 0, 1) := by decide +kernel
theorem dX7_whole_85 : decode cX7_whole 85 = .ok (.iaload, 1) := by decide +kernel
theorem dX7_whole_86 : decode cX7_whole 86 = .ok (.aload_n 3, 1) := by decide +kernel
theorem dX7_whole_87 : decode cX7_whole 87 = .ok (.iconst 1, 1) := by decide +kernel
theorem dX7_whole_88 : decode cX7_whole 88 = .ok (.iaload, 1) := by decide +kernel
theorem dX7_whole_89 : decode cX7_whole 89 = .ok (.aload_n 3, 1) := by decide +kernel
theorem dX7_whole_90 : decode cX7_whole 90 = .ok (.iconst 2, 1) := by decide +kernel
theorem dX7_whole_91 : decode cX7_whole 91 = .ok (.iaload, 1) := by decide +kernel
theorem dX7_whole_92 : decode cX7_whole 92 = .ok (.aload_n 3, 1) := by decide +kernel
theorem dX7_whole_93 : decode cX7_whole 93 = .ok (.iconst 5, 1) := by decide +kernel
theorem dX7_whole_94 : decode cX7_whole 94 = .ok (.iaload, 1) := by decide +kernel
theorem dX7_whole_95 : decode cX7_whole 95 = .ok (.iconst 1, 1) := by decide +kernel
theorem dX7_whole_96 : decode cX7_whole 96 = .ok (.if_icmp .ne 7, 3) := by decide +kernel
theorem dX7_whole_99 : decode cX7_whole 99 = .ok (.iconst 1, 1) := by decide +kernel
theorem dX7_whole_100 : decode cX7_whole 100 = .ok (.goto 4, 3) := by decide +kernel
theorem dX7_whole_103 : decode cX7_whole 103 = .ok (.iconst 0, 1) := by decide +kernel
theorem dX7_whole_104 : decode cX7_whole 104 = .ok (.invokestatic 131, 3) := by decide +kernel
theorem dX7_whole_107 : decode cX7_whole 107 = .ok (.iconst 2, 1) := by decide +kernel
theorem dX7_whole_108 : decode cX7_whole 108 = .ok (.sipush 600, 3) := by decide +kernel
theorem dX7_whole_111 : decode cX7_whole 111 = .ok (.invokestatic 146, 3) := by decide +kernel
theorem dX7_whole_114 : decode cX7_whole 114 = .ok (.aload_n 3, 1) := by decide +kernel
theorem dX7_whole_115 : decode cX7_whole 115 = .ok (.iconst 3, 1) := by decide +kernel
theorem dX7_whole_116 : decode cX7_whole 116 = .ok (.iconst 2, 1) := by decide +kernel
theorem dX7_whole_117 : decode cX7_whole 117 = .ok (.iastore, 1) := by decide +kernel
