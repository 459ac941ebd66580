theorem dX7_whole_118 : decode cX7_whole 118 = .ok (.aload_n 3, 1) := by decide +kernel
theorem dX7_whole_119 : decode cX7_whole 119 = .ok (.iconst 1, 1) := by decide +kernel
theorem dX7_whole_120 : decode cX7_whole 120 = .ok (.iaload, 1) := by decide +kernel
theorem dX7_whole_121 : decode cX7_whole 121 = .ok (.ireturn, 1) := by decide +kernel
theorem dX7_turn_0 : decode cX7_turn 0 = .ok (.aload_n 0, 1) := by decide +kernel
theorem dX7_turn_1 : decode cX7_turn 1 = .ok (.iconst 0, 1) := by decide +kernel
theorem dX7_turn_2 : decode cX7_turn 2 = .ok (.putfield 41, 3) := by decide +kernel
theorem dX7_turn_5 : decode cX7_turn 5 = .ok (.aload_n 0, 1) := by decide +kernel
theorem dX7_turn_6 : decode cX7_turn 6 = .ok (.iload_n 1, 1) := by decide +kernel
theorem dX7_turn_7 : decode cX7_turn 7 = .ok (.invokevirtual 139, 3) := by decide +kernel
theorem dX7_turn_10 : decode cX7_turn 10 = .ok (.ifCond .ne 9, 3) := by decide +kernel
theorem dX7_turn_13 : decode cX7_turn 13 = .ok (.aload_n 0, 1) := by decide +kernel
theorem dX7_turn_14 : decode cX7_turn 14 = .ok (.iconst 1, 1) := by decide +kernel
theorem dX7_turn_15 : decode cX7_turn 15 = .ok (.invokevirtual 56, 3) := by decide +kernel
theorem dX7_turn_18 : decode cX7_turn 18 = .ok (.ireturn, 1) := by decide +kernel
theorem dX7_turn_19 : decode cX7_turn 19 = .ok (.aload_n 0, 1) := by decide +kernel
theorem dX7_turn_20 : decode cX7_turn 20 = .ok (.getfield 24, 3) := by decide +kernel
theorem dX7_turn_23 : decode cX7_turn 23 = .ok (.iload_n 1, 1) := by decide +kernel
theorem dX7_turn_24 : decode cX7_turn 24 = .ok (.invokevirtual 68, 3) := by decide +kernel
theorem dX7_turn_27 : decode cX7_turn 27 = .ok (.checkcast 72, 3) := by decide +kernel
theorem dX7_turn_30 : decode cX7_turn 30 = .ok (.astore_n 2, 1) := by decide +kernel
theorem dX7_turn_31 : decode cX7_turn 31 = .ok (.aload_n 2, 1) := by decide +kernel
theorem dX7_turn_32 : decode cX7_turn 32 = .ok (.iconst 0, 1) := by decide +kernel
theorem dX7_turn_33 : decode cX7_turn 33 = .ok (.iaload, 1) := by decide +kernel
theorem dX7_turn_34 : decode cX7_turn 34 = .ok (.ifCond .ne 9, 3) := by decide +kernel
theorem dX7_turn_37 : decode cX7_turn 37 = .ok (.aload_n 0, 1) := by decide +kernel
theorem dX7_turn_38 : decode cX7_turn 38 = .ok (.iconst 2, 1) := by decide +kernel
theorem dX7_turn_39 : decode cX7_turn 39 = .ok (.invokevirtual 56, 3) := by decide +kernel
theorem dX7_turn_42 : decode cX7_turn 42 = .ok (.ireturn, 1) := by decide +kernel
theorem dX7_turn_43 : decode cX7_turn 43 = .ok (.aload_n 2, 1) := by decide +kernel
theorem dX7_turn_44 : decode cX7_turn 44 = .ok (.bipush 6, 2) := by decide +kernel
theorem dX7_turn_46 : decode cX7_turn 46 = .ok (.iaload, 1) := by decide +kernel
theorem dX7_turn_47 : decode cX7_turn 47 = .ok (.istore_n 3, 1) := by decide +kernel
theorem dX7_turn_48 : decode cX7_turn 48 = .ok (.aload_n 2, 1) := by decide +kernel
theorem dX7_turn_49 : decode cX7_turn 49 = .ok (.bipush 6, 2) := by decide +kernel
theorem dX7_turn_51 : decode cX7_turn 51 = .ok (.iconst 0, 1) := by decide +kernel
theorem dX7_turn_52 : decode cX7_turn 52 = .ok (.iastore, 1) := by decide +kernel
theorem dX7_turn_53 : decode cX7_turn 53 = .ok (.iload_n 3, 1) := by decide +kernel
theorem dX7_turn_54 : decode cX7_turn 54 = .ok (.ireturn, 1) := by decide +kernel
theorem dX7_cover_0 : decode cX7_cover 0 = .ok (.aload_n 0, 1) := by decide +kernel
theorem dX7_cover_1 : decode cX7_cover 1 = .ok (.aload_n 0, 1) := by decide +kernel
theorem dX7_cover_2 : decode cX7_cover 2 = .ok (.iload_n 1, 1) := by decide +kernel
theorem dX7_cover_3 : decode cX7_cover 3 = .ok (.invokevirtual 139, 3) := by decide +kernel
theorem dX7_cover_6 : decode cX7_cover 6 = .ok (.ifCond .eq 7, 3) := by decide +kernel
theorem dX7_cover_9 : decode cX7_cover 9 = .ok (.iconst 0, 1) := by decide +kernel
theorem dX7_cover_10 : decode cX7_cover 10 = .ok (.goto 4, 3) := by decide +kernel
theorem dX7_cover_13 : decode cX7_cover 13 = .ok (.iconst 1, 1) := by decide +kernel
theorem dX7_cover_14 : decode cX7_cover 14 = .ok (.putfield 41, 3) := by decide +kernel
theorem dX7_cover_17 : decode cX7_cover 17 = .ok (.aload_n 0, 1) := by decide +kernel
theorem dX7_cover_18 : decode cX7_cover 18 = .ok (.getfield 41, 3) := by decide +kernel
theorem dX7_cover_21 : decode cX7_cover 21 = .ok (.ifCond .le 5, 3) := by decide +kernel
theorem dX7_cover_24 : decode cX7_cover 24 = .ok (.iconst 0, 1) := by decide +kernel
theorem dX7_cover_25 : decode cX7_cover 25 = .ok (.ireturn, 1) := by decide +kernel
theorem dX7_cover_26 : decode cX7_cover 26 = .ok (.aload_n 0, 1) := by decide +kernel
theorem dX7_cover_27 : decode cX7_cover 27 = .ok (.getfield 24, 3) := by decide +kernel
theorem dX7_cover_30 : decode cX7_cover 30 = .ok (.iload_n 1, 1) := by decide +kernel
theorem dX7_cover_31 : decode cX7_cover 31 = .ok (.invokevirtual 68, 3) := by decide +kernel
theorem dX7_cover_34 : decode cX7_cover 34 = .ok (.checkcast 72, 3) := by decide +kernel
theorem dX7_cover_37 : decode cX7_cover 37 = .ok (.bipush 9, 2) := by decide +kernel
theorem dX7_cover_39 : decode cX7_cover 39 = .ok (.iaload, 1) := by decide +kernel
theorem dX7_cover_40 : decode cX7_cover 40 = .ok (.iconst 1, 1) := by decide +kernel
theorem dX7_cover_41 : decode cX7_cover 41 = .ok (.if_icmp .ne 7, 3) := by decide +kernel
theorem dX7_cover_44 : decode cX7_cover 44 = .ok (.iconst 1, 1) := by decide +kernel
theorem dX7_cover_45 : decode cX7_cover 45 = .ok (.goto 4, 3) := by decide +kernel
theorem dX7_cover_48 : decode cX7_cover 48 = .ok (.iconst 0, 1) := by decide +kernel
theorem dX7_cover_49 : decode cX7_cover 49 = .ok (.istore_n 3, 1) := by decide +kernel
theorem dX7_cover_50 : decode cX7_cover 50 = .ok (.aload_n 0, 1) := by decide +kernel
theorem dX7_cover_51 : decode cX7_cover 51 = .ok (.getfield 24, 3) := by decide +kernel
theorem dX7_cover_54 : decode cX7_cover 54 = .ok (.iload_n 1, 1) := by decide +kernel
theorem dX7_cover_55 : decode cX7_cover 55 = .ok (.invokevirtual 68, 3) := by decide +kernel
theorem dX7_cover_58 : decode cX7_cover 58 = .ok (.checkcast 72, 3) := by decide +kernel
theorem dX7_cover_61 : decode cX7_cover 61 = .ok (.bipush 9, 2) := by decide +kernel
theorem dX7_cover_63 : decode cX7_cover 63 = .ok (.iload_n 2, 1) := by decide +kernel
theorem dX7_cover_64 : decode cX7_cover 64 = .ok (.ifCond .eq 7, 3) := by decide +kernel
theorem dX7_cover_67 : decode cX7_cover 67 = .ok (.iconst 1, 1) := by decide +kernel
theorem dX7_cover_68 : decode cX7_cover 68 = .ok (.goto 4, 3) := by decide +kernel
theorem dX7_cover_71 : decode cX7_cover 71 = .ok (.iconst 0, 1) := by decide +kernel
theorem dX7_cover_72 : decode cX7_cover 72 = .ok (.iastore, 1) := by decide +kernel
theorem dX7_cover_73 : decode cX7_cover 73 = .ok (.iload_n 3, 1) := by decide +kernel
theorem dX7_cover_74 : decode cX7_cover 74 = .ok (.ireturn, 1) := by decide +kernel
theorem dX7_store_0 : decode cX7_store 0 = .ok (.aload_n 0, 1) := by decide +kernel
theorem dX7_store_1 : decode cX7_store 1 = .ok (.iconst 0, 1) := by decide +kernel
theorem dX7_store_2 : decode cX7_store 2 = .ok (.putfield 41, 3) := by decide +kernel
theorem dX7_store_5 : decode cX7_store 5 = .ok (.aload_n 0, 1) := by decide +kernel
theorem dX7_store_6 : decode cX7_store 6 = .ok (.iload_n 1, 1) := by decide +kernel
theorem dX7_store_7 : decode cX7_store 7 = .ok (.invokevirtual 139, 3) := by decide +kernel
theorem dX7_store_10 : decode cX7_store 10 = .ok (.ifCond .ne 9, 3) := by decide +kernel
theorem dX7_store_13 : decode cX7_store 13 = .ok (.aload_n 0, 1) := by decide +kernel
theorem dX7_store_14 : decode cX7_store 14 = .ok (.iconst 1, 1) := by decide +kernel
theorem dX7_store_15 : decode cX7_store 15 = .ok (.invokevirtual 56, 3) := by decide +kernel
theorem dX7_store_18 : decode cX7_store 18 = .ok (.ireturn, 1) := by decide +kernel
theorem dX7_store_19 : decode cX7_store 19 = .ok (.aload_n 0, 1) := by decide +kernel
theorem dX7_store_20 : decode cX7_store 20 = .ok (.getfield 24, 3) := by decide +kernel
theorem dX7_store_23 : decode cX7_store 23 = .ok (.iload_n 1, 1) := by decide +kernel
theorem dX7_store_24 : decode cX7_store 24 = .ok (.invokevirtual 68, 3) := by decide +kernel
theorem dX7_store_27 : decode cX7_store 27 = .ok (.checkcast 72, 3) := by decide +kernel
theorem dX7_store_30 : decode cX7_store 30 = .ok (.astore_n 2, 1) := by decide +kernel
theorem dX7_store_31 : decode cX7_store 31 = .ok (.bipush 23, 2) := by decide +kernel
theorem dX7_store_33 : decode cX7_store 33 = .ok (.newarray .int, 2) := by decide +kernel
theorem dX7_store_35 : decode cX7_store 35 = .ok (.astore_n 3, 1) := by decide +kernel
theorem dX7_store_36 : decode cX7_store 36 = .ok (.aload_n 2, 1) := by decide +kernel
theorem dX7_store_37 : decode cX7_store 37 = .ok (.iconst 4, 1) := by decide +kernel
theorem dX7_store_38 : decode cX7_store 38 = .ok (.iaload, 1) := by decide +kernel
theorem dX7_store_39 : decode cX7_store 39 = .ok (.iconst 2, 1) := by decide +kernel
theorem dX7_store_40 : decode cX7_store 40 = .ok (.if_icmp .ne 7, 3) := by decide +kernel
theorem dX7_store_43 : decode cX7_store 43 = .ok (.iconst 3, 1) := by decide +kernel
theorem dX7_store_44 : decode cX7_store 44 = .ok (.goto 4, 3) := by decide +kernel
theorem dX7_store_47 : decode cX7_store 47 = .ok (.iconst 2, 1) := by decide +kernel
theorem dX7_store_48 : decode cX7_store 48 = .ok (.istore 4, 2) := by decide +kernel
theorem dX7_store_50 : decode cX7_store 50 = .ok (.bipush 11, 2) := by decide +kernel
theorem dX7_store_52 : decode cX7_store 52 = .ok (.istore 5, 2) := by decide +kernel
theorem dX7_store_54 : decode cX7_store 54 = .ok (.iload 5, 2) := by decide +kernel
theorem dX7_store_56 : decode cX7_store 56 = .ok (.bipush 23, 2) := by decide +kernel
theorem dX7_store_58 : decode cX7_store 58 = .ok (.if_icmp .ge 20, 3) := by decide +kernel
theorem dX7_store_61 : decode cX7_store 61 = .ok (.aload_n 3, 1) := by decide +kernel
theorem dX7_store_62 : decode cX7_store 62 = .ok (.iload 5, 2) := by decide +kernel
theorem dX7_store_64 : decode cX7_store 64 = .ok (.aload_n 2, 1) := by decide +kernel
theorem dX7_store_65 : decode cX7_store 65 = .ok (.iload 5, 2) := by decide +kernel
theorem dX7_store_67 : decode cX7_store 67 = .ok (.iaload, 1) := by decide +kernel
theorem dX7_store_68 : decode cX7_store 68 = .ok (.iload 4, 2) := by decide +kernel
theorem dX7_store_70 : decode cX7_store 70 = .ok (.idiv, 1) := by decide +kernel
theorem dX7_store_71 : decode cX7_store 71 = .ok (.iastore, 1) := by decide +kernel
theorem dX7_store_72 : decode cX7_store 72 = .ok (.iinc 5 1, 3) := by decide +kernel
theorem dX7_store_75 : decode cX7_store 75 = .ok (.goto (-21), 3) := by decide +kernel
theorem dX7_store_78 : decode cX7_store 78 = .ok (.aload_n 3, 1) := by decide +kernel
theorem dX7_store_79 : decode cX7_store 79 = .ok (.iconst 0, 1) := by decide +kernel
theorem dX7_store_80 : decode cX7_store 80 = .ok (.aload_n 3, 1) := by decide +kernel
theorem dX7_store_81 : decode cX7_store 81 = .ok (.bipush 11, 2) := by decide +kernel
theorem dX7_store_83 : decode cX7_store 83 = .ok (.invokestatic 157, 3) := by decide +kernel
theorem dX7_store_86 : decode cX7_store 86 = .ok (.iastore, 1) := by decide +kernel
theorem dX7_store_87 : decode cX7_store 87 = .ok (.aload_n 3, 1) := by decide +kernel
theorem dX7_store_88 : decode cX7_store 88 = .ok (.iconst 0, 1) := by decide +kernel
theorem dX7_store_89 : decode cX7_store 89 = .ok (.iaload, 1) := by decide +kernel
theorem dX7_store_90 : decode cX7_store 90 = .ok (.ifCond .eq 15, 3) := by decide +kernel
theorem dX7_store_93 : decode cX7_store 93 = .ok (.aload_n 0, 1) := by decide +kernel
theorem dX7_store_94 : decode cX7_store 94 = .ok (.getfield 27, 3) := by decide +kernel
theorem dX7_store_97 : decode cX7_store 97 = .ok (.invokevirtual 44, 3) := by decide +kernel
theorem dX7_store_100 : decode cX7_store 100 = .ok (.bipush 12, 2) := by decide +kernel
theorem dX7_store_102 : decode cX7_store 102 = .ok (.if_icmp .ne 9, 3) := by decide +kernel
theorem dX7_store_105 : decode cX7_store 105 = .ok (.aload_n 0, 1) := by decide +kernel
theorem dX7_store_106 : decode cX7_store 106 = .ok (.iconst 2, 1) := by decide +kernel
theorem dX7_store_107 : decode cX7_store 107 = .ok (.invokevirtual 56, 3) := by decide +kernel
theorem dX7_store_110 : decode cX7_store 110 = .ok (.ireturn, 1) := by decide +kernel
theorem dX7_store_111 : decode cX7_store 111 = .ok (.aload_n 3, 1) := by decide +kernel
theorem dX7_store_112 : decode cX7_store 112 = .ok (.iconst 1, 1) := by decide +kernel
theorem dX7_store_113 : decode cX7_store 113 = .ok (.aload_n 2, 1) := by decide +kernel
theorem dX7_store_114 : decode cX7_store 114 = .ok (.iconst 1, 1) := by decide +kernel
theorem dX7_store_115 : decode cX7_store 115 = .ok (.iaload, 1) := by decide +kernel
theorem dX7_store_116 : decode cX7_store 116 = .ok (.iastore, 1) := by decide +kernel
theorem dX7_store_117 : decode cX7_store 117 = .ok (.aload_n 3, 1) := by decide +kernel
theorem dX7_store_118 : decode cX7_store 118 = .ok (.iconst 4, 1) := by decide +kernel
theorem dX7_store_119 : decode cX7_store 119 = .ok (.aload_n 2, 1) := by decide +kernel
theorem dX7_store_120 : decode cX7_store 120 = .ok (.iconst 4, 1) := by decide +kernel
theorem dX7_store_121 : decode cX7_store 121 = .ok (.iaload, 1) := by decide +kernel
theorem dX7_store_122 : decode cX7_store 122 = .ok (.iastore, 1) := by decide +kernel
theorem dX7_store_123 : decode cX7_store 123 = .ok (.aload_n 3, 1) := by decide +kernel
theorem dX7_store_124 : decode cX7_store 124 = .ok (.iconst 3, 1) := by decide +kernel
theorem dX7_store_125 : decode cX7_store 125 = .ok (.aload_n 2, 1) := by decide +kernel
theorem dX7_store_126 : decode cX7_store 126 = .ok (.iconst 3, 1) := by decide +kernel
theorem dX7_store_127 : decode cX7_store 127 = .ok (.iaload, 1) := by decide +kernel
theorem dX7_store_128 : decode cX7_store 128 = .ok (.iastore, 1) := by decide +kernel
theorem dX7_store_129 : decode cX7_store 129 = .ok (.aload_n 3, 1) := by decide +kernel
theorem dX7_store_130 : decode cX7_store 130 = .ok (.bipush 7, 2) := by decide +kernel
theorem dX7_store_132 : decode cX7_store 132 = .ok (.aload_n 2, 1) := by decide +kernel
theorem dX7_store_133 : decode cX7_store 133 = .ok (.bipush 7, 2) := by decide +kernel
theorem dX7_store_135 : decode cX7_store 135 = .ok (.iaload, 1) := by decide +kernel
theorem dX7_store_136 : decode cX7_store 136 = .ok (.iastore, 1) := by decide +kernel
theorem dX7_store_137 : decode cX7_store 137 = .ok (.aload_n 3, 1) := by decide +kernel
theorem dX7_store_138 : decode cX7_store 138 = .ok (.iconst 5, 1) := by decide +kernel
theorem dX7_store_139 : decode cX7_store 139 = .ok (.aload_n 2, 1) := by decide +kernel
theorem dX7_store_140 : decode cX7_store 140 = .ok (.iconst 5, 1) := by decide +kernel
theorem dX7_store_141 : decode cX7_store 141 = .ok (.iaload, 1) := by decide +kernel
theorem dX7_store_142 : decode cX7_store 142 = .ok (.iastore, 1) := by decide +kernel
theorem dX7_store_143 : decode cX7_store 143 = .ok (.aload_n 3, 1) := by decide +kernel
theorem dX7_store_144 : decode cX7_store 144 = .ok (.bipush 10, 2) := by decide +kernel
theorem dX7_store_146 : decode cX7_store 146 = .ok (.iconst 1, 1) := by decide +kernel
theorem dX7_store_147 : decode cX7_store 147 = .ok (.iastore, 1) := by decide +kernel
theorem dX7_store_148 : decode cX7_store 148 = .ok (.aload_n 0, 1) := by decide +kernel
theorem dX7_store_149 : decode cX7_store 149 = .ok (.aload_n 0, 1) := by decide +kernel
theorem dX7_store_150 : decode cX7_store 150 = .ok (.getfield 27, 3) := by decide +kernel
theorem dX7_store_153 : decode cX7_store 153 = .ok (.invokevirtual 44, 3) := by decide +kernel
theorem dX7_store_156 : decode cX7_store 156 = .ok (.invokevirtual 160, 3) := by decide +kernel
theorem dX7_store_159 : decode cX7_store 159 = .ok (.aload_n 0, 1) := by decide +kernel
theorem dX7_store_160 : decode cX7_store 160 = .ok (.getfield 27, 3) := by decide +kernel
theorem dX7_store_163 : decode cX7_store 163 = .ok (.aload_n 3, 1) := by decide +kernel
theorem dX7_store_164 : decode cX7_store 164 = .ok (.invokevirtual 60, 3) := by decide +kernel
theorem dX7_store_167 : decode cX7_store 167 = .ok (.pop, 1) := by decide +kernel
theorem dX7_store_168 : decode cX7_store 168 = .ok (.aload_n 0, 1) := by decide +kernel
theorem dX7_store_169 : decode cX7_store 169 = .ok (.dup, 1) := by decide +kernel
theorem dX7_store_170 : decode cX7_store 170 = .ok (.getfield 106, 3) := by decide +kernel
theorem dX7_store_173 : decode cX7_store 173 = .ok (.aload_n 2, 1) := by decide +kernel
theorem dX7_store_174 : decode cX7_store 174 = .ok (.iconst 0, 1) := by decide +kernel
theorem dX7_store_175 : decode cX7_store 175 = .ok (.iaload, 1) := by decide +kernel
theorem dX7_store_176 : decode cX7_store 176 = .ok (.aload_n 3, 1) := by decide +kernel
theorem dX7_store_177 : decode cX7_store 177 = .ok (.iconst 0, 1) := by decide +kernel
theorem dX7_store_178 : decode cX7_store 178 = .ok (.iaload, 1) := by decide +kernel
theorem dX7_store_179 : decode cX7_store 179 = .ok (.isub, 1) := by decide +kernel
theorem dX7_store_180 : decode cX7_store 180 = .ok (.iadd, 1) := by decide +kernel
theorem dX7_store_181 : decode cX7_store 181 = .ok (.putfield 106, 3) := by decide +kernel
theorem dX7_store_184 : decode cX7_store 184 = .ok (.aload_n 2, 1) := by decide +kernel
theorem dX7_store_185 : decode cX7_store 185 = .ok (.invokestatic 153, 3) := by decide +kernel
theorem dX7_store_188 : decode cX7_store 188 = .ok (.aload_n 0, 1) := by decide +kernel
theorem dX7_store_189 : decode cX7_store 189 = .ok (.getfield 27, 3) := by decide +kernel
theorem dX7_store_192 : decode cX7_store 192 = .ok (.invokevirtual 44, 3) := by decide +kernel
theorem dX7_store_195 : decode cX7_store 195 = .ok (.iconst 1, 1) := by decide +kernel
theorem dX7_store_196 : decode cX7_store 196 = .ok (.isub, 1) := by decide +kernel
theorem dX7_store_197 : decode cX7_store 197 = .ok (.ireturn, 1) := by decide +kernel
theorem dX7_forget_0 : decode cX7_forget 0 = .ok (.iconst 0, 1) := by decide +kernel
theorem dX7_forget_1 : decode cX7_forget 1 = .ok (.istore_n 2, 1) := by decide +kernel
theorem dX7_forget_2 : decode cX7_forget 2 = .ok (.iload_n 2, 1) := by decide +kernel
theorem dX7_forget_3 : decode cX7_forget 3 = .ok (.iconst 3, 1) := by decide +kernel
theorem dX7_forget_4 : decode cX7_forget 4 = .ok (.if_icmp .ge 18, 3) := by decide +kernel
theorem dX7_forget_7 : decode cX7_forget 7 = .ok (.aload_n 0, 1) := by decide +kernel
theorem dX7_forget_8 : decode cX7_forget 8 = .ok (.getfield 30, 3) := by decide +kernel
theorem dX7_forget_11 : decode cX7_forget 11 = .ok (.iload_n 1, 1) := by decide +kernel
theorem dX7_forget_12 : decode cX7_forget 12 = .ok (.aaload, 1) := by decide +kernel
theorem dX7_forget_13 : decode cX7_forget 13 = .ok (.iload_n 2, 1) := by decide +kernel
theorem dX7_forget_14 : decode cX7_forget 14 = .ok (.iconst (-1), 1) := by decide +kernel
theorem dX7_forget_15 : decode cX7_forget 15 = .ok (.iastore, 1) := by decide +kernel
theorem dX7_forget_16 : decode cX7_forget 16 = .ok (.iinc 2 1, 3) := by decide +kernel
theorem dX7_forget_19 : decode cX7_forget 19 = .ok (.goto (-17), 3) := by decide +kernel
theorem dX7_forget_22 : decode cX7_forget 22 = .ok (.return_, 1) := by decide +kernel
theorem dX7_fault_0 : decode cX7_fault 0 = .ok (.aload_n 0, 1) := by decide +kernel
theorem dX7_fault_1 : decode cX7_fault 1 = .ok (.iconst 3, 1) := by decide +kernel
theorem dX7_fault_2 : decode cX7_fault 2 = .ok (.iaload, 1) := by decide +kernel
theorem dX7_fault_3 : decode cX7_fault 3 = .ok (.istore_n 2, 1) := by decide +kernel
theorem dX7_fault_4 : decode cX7_fault 4 = .ok (.aload_n 0, 1) := by decide +kernel
theorem dX7_fault_5 : decode cX7_fault 5 = .ok (.iconst 5, 1) := by decide +kernel
theorem dX7_fault_6 : decode cX7_fault 6 = .ok (.iaload, 1) := by decide +kernel
theorem dX7_fault_7 : decode cX7_fault 7 = .ok (.istore_n 3, 1) := by decide +kernel
theorem dX7_fault_8 : decode cX7_fault 8 = .ok (.iload_n 1, 1) := by decide +kernel
theorem dX7_fault_9 : decode cX7_fault 9 = .ok (.tableswitch 121 1 4 #[31, 40, 76, 94], 31) := by decide +kernel
theorem dX7_fault_40 : decode cX7_fault 40 = .ok (.bipush 100, 2) := by decide +kernel
theorem dX7_fault_42 : decode cX7_fault 42 = .ok (.aload_n 0, 1) := by decide +kernel
theorem dX7_fault_43 : decode cX7_fault 43 = .ok (.iconst 1, 1) := by decide +kernel
theorem dX7_fault_44 : decode cX7_fault 44 = .ok (.iaload, 1) := by decide +kernel
theorem dX7_fault_45 : decode cX7_fault 45 = .ok (.isub, 1) := by decide +kernel
theorem dX7_fault_46 : decode cX7_fault 46 = .ok (.iconst 5, 1) := by decide +kernel
theorem dX7_fault_47 : decode cX7_fault 47 = .ok (.idiv, 1) := by decide +kernel
theorem dX7_fault_48 : decode cX7_fault 48 = .ok (.ireturn, 1) := by decide +kernel
theorem dX7_fault_49 : decode cX7_fault 49 = .ok (.aload_n 0, 1) := by decide +kernel
theorem dX7_fault_50 : decode cX7_fault 50 = .ok (.iconst 4, 1) := by decide +kernel
theorem dX7_fault_51 : decode cX7_fault 51 = .ok (.iaload, 1) := by decide +kernel
theorem dX7_fault_52 : decode cX7_fault 52 = .ok (.ifCond .eq 7, 3) := by decide +kernel
theorem dX7_fault_55 : decode cX7_fault 55 = .ok (.iconst 0, 1) := by decide +kernel
theorem dX7_fault_56 : decode cX7_fault 56 = .ok (.goto 28, 3) := by decide +kernel
theorem dX7_fault_59 : decode cX7_fault 59 = .ok (.iload_n 2, 1) := by decide +kernel
theorem dX7_fault_60 : decode cX7_fault 60 = .ok (.bipush 60, 2) := by decide +kernel
theorem dX7_fault_62 : decode cX7_fault 62 = .ok (.if_icmp .ge 12, 3) := by decide +kernel
theorem dX7_fault_65 : decode cX7_fault 65 = .ok (.bipush 60, 2) := by decide +kernel
theorem dX7_fault_67 : decode cX7_fault 67 = .ok (.iload_n 2, 1) := by decide +kernel
theorem dX7_fault_68 : decode cX7_fault 68 = .ok (.isub, 1) := by decide +kernel
theorem dX7_fault_69 : decode cX7_fault 69 = .ok (.iconst 5, 1) := by decide +kernel
theorem dX7_fault_70 : decode cX7_fault 70 = .ok (.idiv, 1) := by decide +kernel
theorem dX7_fault_71 : decode cX7_fault 71 = .ok (.goto 13, 3) := by decide +kernel
theorem dX7_fault_74 : decode cX7_fault 74 = .ok (.iconst 0, 1) := by decide +kernel
theorem dX7_fault_75 : decode cX7_fault 75 = .ok (.iload_n 2, 1) := by decide +kernel
theorem dX7_fault_76 : decode cX7_fault 76 = .ok (.bipush 100, 2) := by decide +kernel
theorem dX7_fault_78 : decode cX7_fault 78 = .ok (.isub, 1) := by decide +kernel
theorem dX7_fault_79 : decode cX7_fault 79 = .ok (.invokestatic 86, 3) := by decide +kernel
theorem dX7_fault_82 : decode cX7_fault 82 = .ok (.iconst 5, 1) := by decide +kernel
theorem dX7_fault_83 : decode cX7_fault 83 = .ok (.idiv, 1) := by decide +kernel
theorem dX7_fault_84 : decode cX7_fault 84 = .ok (.ireturn, 1) := by decide +kernel
theorem dX7_fault_85 : decode cX7_fault 85 = .ok (.aload_n 0, 1) := by decide +kernel
theorem dX7_fault_86 : decode cX7_fault 86 = .ok (.bipush 7, 2) := by decide +kernel
theorem dX7_fault_88 : decode cX7_fault 88 = .ok (.iaload, 1) := by decide +kernel
theorem dX7_fault_89 : decode cX7_fault 89 = .ok (.aload_n 0, 1) := by decide +kernel
theorem dX7_fault_90 : decode cX7_fault 90 = .ok (.iconst 4, 1) := by decide +kernel
theorem dX7_fault_91 : decode cX7_fault 91 = .ok (.iaload, 1) := by decide +kernel
theorem dX7_fault_92 : decode cX7_fault 92 = .ok (.iconst 2, 1) := by decide +kernel
theorem dX7_fault_93 : decode cX7_fault 93 = .ok (.if_icmp .ne 7, 3) := by decide +kernel
theorem dX7_fault_96 : decode cX7_fault 96 = .ok (.iconst 2, 1) := by decide +kernel
theorem dX7_fault_97 : decode cX7_fault 97 = .ok (.goto 4, 3) := by decide +kernel
theorem dX7_fault_100 : decode cX7_fault 100 = .ok (.iconst 1, 1) := by decide +kernel
theorem dX7_fault_101 : decode cX7_fault 101 = .ok (.imul, 1) := by decide +kernel
theorem dX7_fault_102 : decode cX7_fault 102 = .ok (.ireturn, 1) := by decide +kernel
theorem dX7_fault_103 : decode cX7_fault 103 = .ok (.iload_n 3, 1) := by decide +kernel
theorem dX7_fault_104 : decode cX7_fault 104 = .ok (.bipush 125, 2) := by decide +kernel
theorem dX7_fault_106 : decode cX7_fault 106 = .ok (.if_icmp .le 13, 3) := by decide +kernel
theorem dX7_fault_109 : decode cX7_fault 109 = .ok (.iload_n 3, 1) := by decide +kernel
theorem dX7_fault_110 : decode cX7_fault 110 = .ok (.bipush 125, 2) := by decide +kernel
theorem dX7_fault_112 : decode cX7_fault 112 = .ok (.isub, 1) := by decide +kernel
theorem dX7_fault_113 : decode cX7_fault 113 = .ok (.bipush 10, 2) := by decide +kernel
theorem dX7_fault_115 : decode cX7_fault 115 = .ok (.idiv, 1) := by decide +kernel
theorem dX7_fault_116 : decode cX7_fault 116 = .ok (.goto 13, 3) := by decide +kernel
theorem dX7_fault_119 : decode cX7_fault 119 = .ok (.iconst 0, 1) := by decide +kernel
theorem dX7_fault_120 : decode cX7_fault 120 = .ok (.bipush 95, 2) := by decide +kernel
theorem dX7_fault_122 : decode cX7_fault 122 = .ok (.iload_n 3, 1) := by decide +kernel
theorem dX7_fault_123 : decode cX7_fault 123 = .ok (.isub, 1) := by decide +kernel
theorem dX7_fault_124 : decode cX7_fault 124 = .ok (.invokestatic 86, 3) := by decide +kernel
theorem dX7_fault_127 : decode cX7_fault 127 = .ok (.iconst 5, 1) := by decide +kernel
theorem dX7_fault_128 : decode cX7_fault 128 = .ok (.idiv, 1) := by decide +kernel
theorem dX7_fault_129 : decode cX7_fault 129 = .ok (.ireturn, 1) := by decide +kernel
theorem dX7_fault_130 : decode cX7_fault 130 = .ok (.aload_n 0, 1) := by decide +kernel
theorem dX7_fault_131 : decode cX7_fault 131 = .ok (.iconst 2, 1) := by decide +kernel
theorem dX7_fault_132 : decode cX7_fault 132 = .ok (.iaload, 1) := by decide +kernel
theorem dX7_fault_133 : decode cX7_fault 133 = .ok (.bipush 30, 2) := by decide +kernel
theorem dX7_fault_135 : decode cX7_fault 135 = .ok (.idiv, 1) := by decide +kernel
theorem dX7_fault_136 : decode cX7_fault 136 = .ok (.ireturn, 1) := by decide +kernel
theorem dX7_scoreOf_0 : decode cX7_scoreOf 0 = .ok (.aload_n 1, 1) := by decide +kernel
theorem dX7_scoreOf_1 : decode cX7_scoreOf 1 = .ok (.iconst 0, 1) := by decide +kernel
theorem dX7_scoreOf_2 : decode cX7_scoreOf 2 = .ok (.iaload, 1) := by decide +kernel
theorem dX7_scoreOf_3 : decode cX7_scoreOf 3 = .ok (.ifCond .ne 5, 3) := by decide +kernel
theorem dX7_scoreOf_6 : decode cX7_scoreOf 6 = .ok (.iconst 0, 1) := by decide +kernel
theorem dX7_scoreOf_7 : decode cX7_scoreOf 7 = .ok (.ireturn, 1) := by decide +kernel
theorem dX7_scoreOf_8 : decode cX7_scoreOf 8 = .ok (.iconst 0, 1) := by decide +kernel
theorem dX7_scoreOf_9 : decode cX7_scoreOf 9 = .ok (.istore_n 2, 1) := by decide +kernel
theorem dX7_scoreOf_10 : decode cX7_scoreOf 10 = .ok (.iconst 0, 1) := by decide +kernel
theorem dX7_scoreOf_11 : decode cX7_scoreOf 11 = .ok (.istore_n 3, 1) := by decide +kernel
theorem dX7_scoreOf_12 : decode cX7_scoreOf 12 = .ok (.iload_n 3, 1) := by decide +kernel
theorem dX7_scoreOf_13 : decode cX7_scoreOf 13 = .ok (.aload_n 0, 1) := by decide +kernel
theorem dX7_scoreOf_14 : decode cX7_scoreOf 14 = .ok (.getfield 12, 3) := by decide +kernel
theorem dX7_scoreOf_17 : decode cX7_scoreOf 17 = .ok (.invokevirtual 44, 3) := by decide +kernel
theorem dX7_scoreOf_20 : decode cX7_scoreOf 20 = .ok (.if_icmp .ge 32, 3) := by decide +kernel
theorem dX7_scoreOf_23 : decode cX7_scoreOf 23 = .ok (.iload_n 2, 1) := by decide +kernel
theorem dX7_scoreOf_24 : decode cX7_scoreOf 24 = .ok (.aload_n 1, 1) := by decide +kernel
theorem dX7_scoreOf_25 : decode cX7_scoreOf 25 = .ok (.bipush 11, 2) := by decide +kernel
theorem dX7_scoreOf_27 : decode cX7_scoreOf 27 = .ok (.iload_n 3, 1) := by decide +kernel
theorem dX7_scoreOf_28 : decode cX7_scoreOf 28 = .ok (.iadd, 1) := by decide +kernel
theorem dX7_scoreOf_29 : decode cX7_scoreOf 29 = .ok (.iaload, 1) := by decide +kernel
theorem dX7_scoreOf_30 : decode cX7_scoreOf 30 = .ok (.aload_n 0, 1) := by decide +kernel
theorem dX7_scoreOf_31 : decode cX7_scoreOf 31 = .ok (.getfield 12, 3) := by decide +kernel
theorem dX7_scoreOf_34 : decode cX7_scoreOf 34 = .ok (.iload_n 3, 1) := by decide +kernel
theorem dX7_scoreOf_35 : decode cX7_scoreOf 35 = .ok (.invokevirtual 68, 3) := by decide +kernel
theorem dX7_scoreOf_38 : decode cX7_scoreOf 38 = .ok (.checkcast 72, 3) := by decide +kernel
theorem dX7_scoreOf_41 : decode cX7_scoreOf 41 = .ok (.iconst 0, 1) := by decide +kernel
theorem dX7_scoreOf_42 : decode cX7_scoreOf 42 = .ok (.iaload, 1) := by decide +kernel
theorem dX7_scoreOf_43 : decode cX7_scoreOf 43 = .ok (.imul, 1) := by decide +kernel
theorem dX7_scoreOf_44 : decode cX7_scoreOf 44 = .ok (.iadd, 1) := by decide +kernel
theorem dX7_scoreOf_45 : decode cX7_scoreOf 45 = .ok (.istore_n 2, 1) := by decide +kernel
theorem dX7_scoreOf_46 : decode cX7_scoreOf 46 = .ok (.iinc 3 1, 3) := by decide +kernel
theorem dX7_scoreOf_49 : decode cX7_scoreOf 49 = .ok (.goto (-37), 3) := by decide +kernel
theorem dX7_scoreOf_52 : decode cX7_scoreOf 52 = .ok (.bipush 68, 2) := by decide +kernel
theorem dX7_scoreOf_54 : decode cX7_scoreOf 54 = .ok (.iload_n 2, 1) := by decide +kernel
theorem dX7_scoreOf_55 : decode cX7_scoreOf 55 = .ok (.aload_n 1, 1) := by decide +kernel
theorem dX7_scoreOf_56 : decode cX7_scoreOf 56 = .ok (.iconst 0, 1) := by decide +kernel
theorem dX7_scoreOf_57 : decode cX7_scoreOf 57 = .ok (.iaload, 1) := by decide +kernel
theorem dX7_scoreOf_58 : decode cX7_scoreOf 58 = .ok (.idiv, 1) := by decide +kernel
theorem dX7_scoreOf_59 : decode cX7_scoreOf 59 = .ok (.iadd, 1) := by decide +kernel
theorem dX7_scoreOf_60 : decode cX7_scoreOf 60 = .ok (.aload_n 1, 1) := by decide +kernel
theorem dX7_scoreOf_61 : decode cX7_scoreOf 61 = .ok (.iconst 4, 1) := by decide +kernel
theorem dX7_scoreOf_62 : decode cX7_scoreOf 62 = .ok (.iaload, 1) := by decide +kernel
theorem dX7_scoreOf_63 : decode cX7_scoreOf 63 = .ok (.iadd, 1) := by decide +kernel
theorem dX7_scoreOf_64 : decode cX7_scoreOf 64 = .ok (.istore_n 3, 1) := by decide +kernel
theorem dX7_scoreOf_65 : decode cX7_scoreOf 65 = .ok (.iconst 1, 1) := by decide +kernel
theorem dX7_scoreOf_66 : decode cX7_scoreOf 66 = .ok (.istore 4, 2) := by decide +kernel
theorem dX7_scoreOf_68 : decode cX7_scoreOf 68 = .ok (.iload 4, 2) := by decide +kernel
theorem dX7_scoreOf_70 : decode cX7_scoreOf 70 = .ok (.bipush 6, 2) := by decide +kernel
theorem dX7_scoreOf_72 : decode cX7_scoreOf 72 = .ok (.if_icmp .ge 18, 3) := by decide +kernel
theorem dX7_scoreOf_75 : decode cX7_scoreOf 75 = .ok (.iload_n 3, 1) := by decide +kernel
theorem dX7_scoreOf_76 : decode cX7_scoreOf 76 = .ok (.aload_n 1, 1) := by decide +kernel
theorem dX7_scoreOf_77 : decode cX7_scoreOf 77 = .ok (.iload 4, 2) := by decide +kernel
theorem dX7_scoreOf_79 : decode cX7_scoreOf 79 = .ok (.invokestatic 164, 3) := by decide +kernel
theorem dX7_scoreOf_82 : decode cX7_scoreOf 82 = .ok (.isub, 1) := by decide +kernel
theorem dX7_scoreOf_83 : decode cX7_scoreOf 83 = .ok (.istore_n 3, 1) := by decide +kernel
theorem dX7_scoreOf_84 : decode cX7_scoreOf 84 = .ok (.iinc 4 1, 3) := by decide +kernel
theorem dX7_scoreOf_87 : decode cX7_scoreOf 87 = .ok (.goto (-19), 3) := by decide +kernel
theorem dX7_scoreOf_90 : decode cX7_scoreOf 90 = .ok (.bipush 40, 2) := by decide +kernel
theorem dX7_scoreOf_92 : decode cX7_scoreOf 92 = .ok (.iload_n 3, 1) := by decide +kernel
theorem dX7_scoreOf_93 : decode cX7_scoreOf 93 = .ok (.invokestatic 86, 3) := by decide +kernel
theorem dX7_scoreOf_96 : decode cX7_scoreOf 96 = .ok (.ireturn, 1) := by decide +kernel
theorem dX7_causeOf_0 : decode cX7_causeOf 0 = .ok (.aload_n 0, 1) := by decide +kernel
theorem dX7_causeOf_1 : decode cX7_causeOf 1 = .ok (.iconst 0, 1) := by decide +kernel
theorem dX7_causeOf_2 : decode cX7_causeOf 2 = .ok (.iaload, 1) := by decide +kernel
theorem dX7_causeOf_3 : decode cX7_causeOf 3 = .ok (.ifCond .ne 5, 3) := by decide +kernel
theorem dX7_causeOf_6 : decode cX7_causeOf 6 = .ok (.iconst 0, 1) := by decide +kernel
theorem dX7_causeOf_7 : decode cX7_causeOf 7 = .ok (.ireturn, 1) := by decide +kernel
theorem dX7_causeOf_8 : decode cX7_causeOf 8 = .ok (.iconst 0, 1) := by decide +kernel
theorem dX7_causeOf_9 : decode cX7_causeOf 9 = .ok (.istore_n 1, 1) := by decide +kernel
theorem dX7_causeOf_10 : decode cX7_causeOf 10 = .ok (.iconst 0, 1) := by decide +kernel
theorem dX7_causeOf_11 : decode cX7_causeOf 11 = .ok (.istore_n 2, 1) := by decide +kernel
theorem dX7_causeOf_12 : decode cX7_causeOf 12 = .ok (.iconst 1, 1) := by decide +kernel
theorem dX7_causeOf_13 : decode cX7_causeOf 13 = .ok (.istore_n 3, 1) := by decide +kernel
theorem dX7_causeOf_14 : decode cX7_causeOf 14 = .ok (.iload_n 3, 1) := by decide +kernel
theorem dX7_causeOf_15 : decode cX7_causeOf 15 = .ok (.bipush 6, 2) := by decide +kernel
theorem dX7_causeOf_17 : decode cX7_causeOf 17 = .ok (.if_icmp .ge 29, 3) := by decide +kernel
theorem dX7_causeOf_20 : decode cX7_causeOf 20 = .ok (.aload_n 0, 1) := by decide +kernel
theorem dX7_causeOf_21 : decode cX7_causeOf 21 = .ok (.iload_n 3, 1) := by decide +kernel
theorem dX7_causeOf_22 : decode cX7_causeOf 22 = .ok (.invokestatic 164, 3) := by decide +kernel
theorem dX7_causeOf_25 : decode cX7_causeOf 25 = .ok (.iload_n 2, 1) := by decide +kernel
theorem dX7_causeOf_26 : decode cX7_causeOf 26 = .ok (.if_icmp .gt 6, 3) := by decide +kernel
theorem dX7_causeOf_29 : decode cX7_causeOf 29 = .ok (.goto 11, 3) := by decide +kernel
theorem dX7_causeOf_32 : decode cX7_causeOf 32 = .ok (.aload_n 0, 1) := by decide +kernel
theorem dX7_causeOf_33 : decode cX7_causeOf 33 = .ok (.iload_n 3, 1) := by decide +kernel
theorem dX7_causeOf_34 : decode cX7_causeOf 34 = .ok (.invokestatic 164, 3) := by decide +kernel
theorem dX7_causeOf_37 : decode cX7_causeOf 37 = .ok (.istore_n 2, 1) := by decide +kernel
theorem dX7_causeOf_38 : decode cX7_causeOf 38 = .ok (.iload_n 3, 1) := by decide +kernel
theorem dX7_causeOf_39 : decode cX7_causeOf 39 = .ok (.istore_n 1, 1) := by decide +kernel
theorem dX7_causeOf_40 : decode cX7_causeOf 40 = .ok (.iinc 3 1, 3) := by decide +kernel
theorem dX7_causeOf_43 : decode cX7_causeOf 43 = .ok (.goto (-29), 3) := by decide +kernel
theorem dX7_causeOf_46 : decode cX7_causeOf 46 = .ok (.iload_n 1, 1) := by decide +kernel
theorem dX7_causeOf_47 : decode cX7_causeOf 47 = .ok (.ireturn, 1) := by decide +kernel
theorem dX7_gradeOf_0 : decode cX7_gradeOf 0 = .ok (.iconst 0, 1) := by decide +kernel
theorem dX7_gradeOf_1 : decode cX7_gradeOf 1 = .ok (.istore_n 2, 1) := by decide +kernel
theorem dX7_gradeOf_2 : decode cX7_gradeOf 2 = .ok (.iconst 0, 1) := by decide +kernel
theorem dX7_gradeOf_3 : decode cX7_gradeOf 3 = .ok (.istore_n 3, 1) := by decide +kernel
theorem dX7_gradeOf_4 : decode cX7_gradeOf 4 = .ok (.aload_n 0, 1) := by decide +kernel
theorem dX7_gradeOf_5 : decode cX7_gradeOf 5 = .ok (.getfield 30, 3) := by decide +kernel
theorem dX7_gradeOf_8 : decode cX7_gradeOf 8 = .ok (.iload_n 1, 1) := by decide +kernel
theorem dX7_gradeOf_9 : decode cX7_gradeOf 9 = .ok (.aaload, 1) := by decide +kernel
theorem dX7_gradeOf_10 : decode cX7_gradeOf 10 = .ok (.astore 4, 2) := by decide +kernel
theorem dX7_gradeOf_12 : decode cX7_gradeOf 12 = .ok (.aload 4, 2) := by decide +kernel
theorem dX7_gradeOf_14 : decode cX7_gradeOf 14 = .ok (.arraylength, 1) := by decide +kernel
theorem dX7_gradeOf_15 : decode cX7_gradeOf 15 = .ok (.istore 5, 2) := by decide +kernel
theorem dX7_gradeOf_17 : decode cX7_gradeOf 17 = .ok (.iconst 0, 1) := by decide +kernel
theorem dX7_gradeOf_18 : decode cX7_gradeOf 18 = .ok (.istore 6, 2) := by decide +kernel
theorem dX7_gradeOf_20 : decode cX7_gradeOf 20 = .ok (.iload 6, 2) := by decide +kernel
theorem dX7_gradeOf_22 : decode cX7_gradeOf 22 = .ok (.iload 5, 2) := by decide +kernel
theorem dX7_gradeOf_24 : decode cX7_gradeOf 24 = .ok (.if_icmp .ge 33, 3) := by decide +kernel
theorem dX7_gradeOf_27 : decode cX7_gradeOf 27 = .ok (.aload 4, 2) := by decide +kernel
theorem dX7_gradeOf_29 : decode cX7_gradeOf 29 = .ok (.iload 6, 2) := by decide +kernel
theorem dX7_gradeOf_31 : decode cX7_gradeOf 31 = .ok (.iaload, 1) := by decide +kernel
theorem dX7_gradeOf_32 : decode cX7_gradeOf 32 = .ok (.istore 7, 2) := by decide +kernel
theorem dX7_gradeOf_34 : decode cX7_gradeOf 34 = .ok (.iload 7, 2) := by decide +kernel
theorem dX7_gradeOf_36 : decode cX7_gradeOf 36 = .ok (.iconst (-1), 1) := by decide +kernel
theorem dX7_gradeOf_37 : decode cX7_gradeOf 37 = .ok (.if_icmp .ne 6, 3) := by decide +kernel
theorem dX7_gradeOf_40 : decode cX7_gradeOf 40 = .ok (.goto 11, 3) := by decide +kernel
theorem dX7_gradeOf_43 : decode cX7_gradeOf 43 = .ok (.iload_n 2, 1) := by decide +kernel
theorem dX7_gradeOf_44 : decode cX7_gradeOf 44 = .ok (.iload 7, 2) := by decide +kernel
theorem dX7_gradeOf_46 : decode cX7_gradeOf 46 = .ok (.iadd, 1) := by decide +kernel
theorem dX7_gradeOf_47 : decode cX7_gradeOf 47 = .ok (.istore_n 2, 1) := by decide +kernel
theorem dX7_gradeOf_48 : decode cX7_gradeOf 48 = .ok (.iinc 3 1, 3) := by decide +kernel
theorem dX7_gradeOf_51 : decode cX7_gradeOf 51 = .ok (.iinc 6 1, 3) := by decide +kernel
theorem dX7_gradeOf_54 : decode cX7_gradeOf 54 = .ok (.goto (-34), 3) := by decide +kernel
theorem dX7_gradeOf_57 : decode cX7_gradeOf 57 = .ok (.iload_n 3, 1) := by decide +kernel
theorem dX7_gradeOf_58 : decode cX7_gradeOf 58 = .ok (.ifCond .ne 7, 3) := by decide +kernel
theorem dX7_gradeOf_61 : decode cX7_gradeOf 61 = .ok (.iconst (-1), 1) := by decide +kernel
theorem dX7_gradeOf_62 : decode cX7_gradeOf 62 = .ok (.goto 6, 3) := by decide +kernel
theorem dX7_gradeOf_65 : decode cX7_gradeOf 65 = .ok (.iload_n 2, 1) := by decide +kernel
theorem dX7_gradeOf_66 : decode cX7_gradeOf 66 = .ok (.iload_n 3, 1) := by decide +kernel
theorem dX7_gradeOf_67 : decode cX7_gradeOf 67 = .ok (.idiv, 1) := by decide +kernel
theorem dX7_gradeOf_68 : decode cX7_gradeOf 68 = .ok (.ireturn, 1) := by decide +kernel
theorem dX7_isIn_0 : decode cX7_isIn 0 = .ok (.aload_n 0, 1) := by decide +kernel
theorem dX7_isIn_1 : decode cX7_isIn 1 = .ok (.bipush 10, 2) := by decide +kernel
theorem dX7_isIn_3 : decode cX7_isIn 3 = .ok (.iaload, 1) := by decide +kernel
theorem dX7_isIn_4 : decode cX7_isIn 4 = .ok (.iconst 1, 1) := by decide +kernel
theorem dX7_isIn_5 : decode cX7_isIn 5 = .ok (.if_icmp .ne 7, 3) := by decide +kernel
theorem dX7_isIn_8 : decode cX7_isIn 8 = .ok (.iconst 1, 1) := by decide +kernel
theorem dX7_isIn_9 : decode cX7_isIn 9 = .ok (.goto 4, 3) := by decide +kernel
theorem dX7_isIn_12 : decode cX7_isIn 12 = .ok (.iconst 0, 1) := by decide +kernel
theorem dX7_isIn_13 : decode cX7_isIn 13 = .ok (.ireturn, 1) := by decide +kernel
theorem dX7_isTaster_0 : decode cX7_isTaster 0 = .ok (.iload_n 0, 1) := by decide +kernel
theorem dX7_isTaster_1 : decode cX7_isTaster 1 = .ok (.iconst 0, 1) := by decide +kernel
theorem dX7_isTaster_2 : decode cX7_isTaster 2 = .ok (.iconst 2, 1) := by decide +kernel
theorem dX7_isTaster_3 : decode cX7_isTaster 3 = .ok (.invokestatic 48, 3) := by decide +kernel
theorem dX7_isTaster_6 : decode cX7_isTaster 6 = .ok (.ireturn, 1) := by decide +kernel
theorem dX7_bias_0 : decode cX7_bias 0 = .ok (.aload_n 0, 1) := by decide +kernel
theorem dX7_bias_1 : decode cX7_bias 1 = .ok (.iconst 0, 1) := by decide +kernel
theorem dX7_bias_2 : decode cX7_bias 2 = .ok (.putfield 41, 3) := by decide +kernel
theorem dX7_bias_5 : decode cX7_bias 5 = .ok (.iload_n 1, 1) := by decide +kernel
theorem dX7_bias_6 : decode cX7_bias 6 = .ok (.invokestatic 167, 3) := by decide +kernel
theorem dX7_bias_9 : decode cX7_bias 9 = .ok (.ifCond .ne 9, 3) := by decide +kernel
theorem dX7_bias_12 : decode cX7_bias 12 = .ok (.aload_n 0, 1) := by decide +kernel
theorem dX7_bias_13 : decode cX7_bias 13 = .ok (.iconst 1, 1) := by decide +kernel
theorem dX7_bias_14 : decode cX7_bias 14 = .ok (.invokevirtual 56, 3) := by decide +kernel
theorem dX7_bias_17 : decode cX7_bias 17 = .ok (.ireturn, 1) := by decide +kernel
theorem dX7_bias_18 : decode cX7_bias 18 = .ok (.iload_n 2, 1) := by decide +kernel
theorem dX7_bias_19 : decode cX7_bias 19 = .ok (.bipush (-5), 2) := by decide +kernel
theorem dX7_bias_21 : decode cX7_bias 21 = .ok (.iconst 5, 1) := by decide +kernel
theorem dX7_bias_22 : decode cX7_bias 22 = .ok (.invokestatic 48, 3) := by decide +kernel
theorem dX7_bias_25 : decode cX7_bias 25 = .ok (.ifCond .ne 9, 3) := by decide +kernel
theorem dX7_bias_28 : decode cX7_bias 28 = .ok (.aload_n 0, 1) := by decide +kernel
theorem dX7_bias_29 : decode cX7_bias 29 = .ok (.iconst 2, 1) := by decide +kernel
theorem dX7_bias_30 : decode cX7_bias 30 = .ok (.invokevirtual 56, 3) := by decide +kernel
theorem dX7_bias_33 : decode cX7_bias 33 = .ok (.ireturn, 1) := by decide +kernel
theorem dX7_bias_34 : decode cX7_bias 34 = .ok (.aload_n 0, 1) := by decide +kernel
theorem dX7_bias_35 : decode cX7_bias 35 = .ok (.getfield 33, 3) := by decide +kernel
theorem dX7_bias_38 : decode cX7_bias 38 = .ok (.iload_n 1, 1) := by decide +kernel
theorem dX7_bias_39 : decode cX7_bias 39 = .ok (.iaload, 1) := by decide +kernel
theorem dX7_bias_40 : decode cX7_bias 40 = .ok (.istore_n 3, 1) := by decide +kernel
theorem dX7_bias_41 : decode cX7_bias 41 = .ok (.aload_n 0, 1) := by decide +kernel
theorem dX7_bias_42 : decode cX7_bias 42 = .ok (.getfield 33, 3) := by decide +kernel
theorem dX7_bias_45 : decode cX7_bias 45 = .ok (.iload_n 1, 1) := by decide +kernel
theorem dX7_bias_46 : decode cX7_bias 46 = .ok (.iload_n 2, 1) := by decide +kernel
theorem dX7_bias_47 : decode cX7_bias 47 = .ok (.iastore, 1) := by decide +kernel
theorem dX7_bias_48 : decode cX7_bias 48 = .ok (.iload_n 3, 1) := by decide +kernel
theorem dX7_bias_49 : decode cX7_bias 49 = .ok (.ireturn, 1) := by decide +kernel
theorem dX7_cup_0 : decode cX7_cup 0 = .ok (.aload_n 0, 1) := by decide +kernel
theorem dX7_cup_1 : decode cX7_cup 1 = .ok (.iconst 0, 1) := by decide +kernel
theorem dX7_cup_2 : decode cX7_cup 2 = .ok (.putfield 41, 3) := by decide +kernel
theorem dX7_cup_5 : decode cX7_cup 5 = .ok (.aload_n 0, 1) := by decide +kernel
theorem dX7_cup_6 : decode cX7_cup 6 = .ok (.iload_n 1, 1) := by decide +kernel
theorem dX7_cup_7 : decode cX7_cup 7 = .ok (.invokevirtual 170, 3) := by decide +kernel
theorem dX7_cup_10 : decode cX7_cup 10 = .ok (.ifCond .eq 10, 3) := by decide +kernel
theorem dX7_cup_13 : decode cX7_cup 13 = .ok (.iload_n 2, 1) := by decide +kernel
theorem dX7_cup_14 : decode cX7_cup 14 = .ok (.invokestatic 167, 3) := by decide +kernel
theorem dX7_cup_17 : decode cX7_cup 17 = .ok (.ifCond .ne 9, 3) := by decide +kernel
theorem dX7_cup_20 : decode cX7_cup 20 = .ok (.aload_n 0, 1) := by decide +kernel
theorem dX7_cup_21 : decode cX7_cup 21 = .ok (.iconst 1, 1) := by decide +kernel
theorem dX7_cup_22 : decode cX7_cup 22 = .ok (.invokevirtual 56, 3) := by decide +kernel
theorem dX7_cup_25 : decode cX7_cup 25 = .ok (.ireturn, 1) := by decide +kernel
theorem dX7_cup_26 : decode cX7_cup 26 = .ok (.aload_n 0, 1) := by decide +kernel
theorem dX7_cup_27 : decode cX7_cup 27 = .ok (.getfield 27, 3) := by decide +kernel
theorem dX7_cup_30 : decode cX7_cup 30 = .ok (.iload_n 1, 1) := by decide +kernel
theorem dX7_cup_31 : decode cX7_cup 31 = .ok (.invokevirtual 68, 3) := by decide +kernel
theorem dX7_cup_34 : decode cX7_cup 34 = .ok (.checkcast 72, 3) := by decide +kernel
theorem dX7_cup_37 : decode cX7_cup 37 = .ok (.invokestatic 173, 3) := by decide +kernel
theorem dX7_cup_40 : decode cX7_cup 40 = .ok (.ifCond .ne 9, 3) := by decide +kernel
theorem dX7_cup_43 : decode cX7_cup 43 = .ok (.aload_n 0, 1) := by decide +kernel
theorem dX7_cup_44 : decode cX7_cup 44 = .ok (.iconst 2, 1) := by decide +kernel
theorem dX7_cup_45 : decode cX7_cup 45 = .ok (.invokevirtual 56, 3) := by decide +kernel
theorem dX7_cup_48 : decode cX7_cup 48 = .ok (.ireturn, 1) := by decide +kernel
theorem dX7_cup_49 : decode cX7_cup 49 = .ok (.aload_n 0, 1) := by decide +kernel
theorem dX7_cup_50 : decode cX7_cup 50 = .ok (.getfield 30, 3) := by decide +kernel
theorem dX7_cup_53 : decode cX7_cup 53 = .ok (.iload_n 1, 1) := by decide +kernel
theorem dX7_cup_54 : decode cX7_cup 54 = .ok (.aaload, 1) := by decide +kernel
theorem dX7_cup_55 : decode cX7_cup 55 = .ok (.iload_n 2, 1) := by decide +kernel
theorem dX7_cup_56 : decode cX7_cup 56 = .ok (.aload_n 0, 1) := by decide +kernel
theorem dX7_cup_57 : decode cX7_cup 57 = .ok (.aload_n 0, 1) := by decide +kernel
theorem dX7_cup_58 : decode cX7_cup 58 = .ok (.getfield 27, 3) := by decide +kernel
theorem dX7_cup_61 : decode cX7_cup 61 = .ok (.iload_n 1, 1) := by decide +kernel
theorem dX7_cup_62 : decode cX7_cup 62 = .ok (.invokevirtual 68, 3) := by decide +kernel
theorem dX7_cup_65 : decode cX7_cup 65 = .ok (.checkcast 72, 3) := by decide +kernel
theorem dX7_cup_68 : decode cX7_cup 68 = .ok (.invokevirtual 177, 3) := by decide +kernel
theorem dX7_cup_71 : decode cX7_cup 71 = .ok (.aload_n 0, 1) := by decide +kernel
theorem dX7_cup_72 : decode cX7_cup 72 = .ok (.getfield 33, 3) := by decide +kernel
theorem dX7_cup_75 : decode cX7_cup 75 = .ok (.iload_n 2, 1) := by decide +kernel
theorem dX7_cup_76 : decode cX7_cup 76 = .ok (.iaload, 1) := by decide +kernel
theorem dX7_cup_77 : decode cX7_cup 77 = .ok (.iadd, 1) := by decide +kernel
theorem dX7_cup_78 : decode cX7_cup 78 = .ok (.iastore, 1) := by decide +kernel
theorem dX7_cup_79 : decode cX7_cup 79 = .ok (.aload_n 0, 1) := by decide +kernel
theorem dX7_cup_80 : decode cX7_cup 80 = .ok (.getfield 30, 3) := by decide +kernel
theorem dX7_cup_83 : decode cX7_cup 83 = .ok (.iload_n 1, 1) := by decide +kernel
theorem dX7_cup_84 : decode cX7_cup 84 = .ok (.aaload, 1) := by decide +kernel
theorem dX7_cup_85 : decode cX7_cup 85 = .ok (.iload_n 2, 1) := by decide +kernel
theorem dX7_cup_86 : decode cX7_cup 86 = .ok (.iaload, 1) := by decide +kernel
theorem dX7_cup_87 : decode cX7_cup 87 = .ok (.ireturn, 1) := by decide +kernel
theorem dX7_blendOf_0 : decode cX7_blendOf 0 = .ok (.aload_n 0, 1) := by decide +kernel
theorem dX7_blendOf_1 : decode cX7_blendOf 1 = .ok (.invokevirtual 181, 3) := by decide +kernel
theorem dX7_blendOf_4 : decode cX7_blendOf 4 = .ok (.checkcast 72, 3) := by decide +kernel
theorem dX7_blendOf_7 : decode cX7_blendOf 7 = .ok (.astore_n 2, 1) := by decide +kernel
theorem dX7_blendOf_8 : decode cX7_blendOf 8 = .ok (.aload_n 2, 1) := by decide +kernel
theorem dX7_blendOf_9 : decode cX7_blendOf 9 = .ok (.iconst 3, 1) := by decide +kernel
theorem dX7_blendOf_10 : decode cX7_blendOf 10 = .ok (.aload_n 0, 1) := by decide +kernel
theorem dX7_blendOf_11 : decode cX7_blendOf 11 = .ok (.iconst 0, 1) := by decide +kernel
theorem dX7_blendOf_12 : decode cX7_blendOf 12 = .ok (.iaload, 1) := by decide +kernel
theorem dX7_blendOf_13 : decode cX7_blendOf 13 = .ok (.aload_n 0, 1) := by decide +kernel
theorem dX7_blendOf_14 : decode cX7_blendOf 14 = .ok (.iconst 3, 1) := by decide +kernel
theorem dX7_blendOf_15 : decode cX7_blendOf 15 = .ok (.iaload, 1) := by decide +kernel
theorem dX7_blendOf_16 : decode cX7_blendOf 16 = .ok (.aload_n 1, 1) := by decide +kernel
theorem dX7_blendOf_17 : decode cX7_blendOf 17 = .ok (.iconst 0, 1) := by decide +kernel
theorem dX7_blendOf_18 : decode cX7_blendOf 18 = .ok (.iaload, 1) := by decide +kernel
theorem dX7_blendOf_19 : decode cX7_blendOf 19 = .ok (.aload_n 1, 1) := by decide +kernel
theorem dX7_blendOf_20 : decode cX7_blendOf 20 = .ok (.iconst 3, 1) := by decide +kernel
theorem dX7_blendOf_21 : decode cX7_blendOf 21 = .ok (.iaload, 1) := by decide +kernel
theorem dX7_blendOf_22 : decode cX7_blendOf 22 = .ok (.invokestatic 52, 3) := by decide +kernel
theorem dX7_blendOf_25 : decode cX7_blendOf 25 = .ok (.iastore, 1) := by decide +kernel
theorem dX7_blendOf_26 : decode cX7_blendOf 26 = .ok (.aload_n 2, 1) := by decide +kernel
theorem dX7_blendOf_27 : decode cX7_blendOf 27 = .ok (.iconst 5, 1) := by decide +kernel
theorem dX7_blendOf_28 : decode cX7_blendOf 28 = .ok (.aload_n 0, 1) := by decide +kernel
theorem dX7_blendOf_29 : decode cX7_blendOf 29 = .ok (.iconst 0, 1) := by decide +kernel
theorem dX7_blendOf_30 : decode cX7_blendOf 30 = .ok (.iaload, 1) := by decide +kernel
theorem dX7_blendOf_31 : decode cX7_blendOf 31 = .ok (.aload_n 0, 1) := by decide +kernel
theorem dX7_blendOf_32 : decode cX7_blendOf 32 = .ok (.iconst 5, 1) := by decide +kernel
theorem dX7_blendOf_33 : decode cX7_blendOf 33 = .ok (.iaload, 1) := by decide +kernel
theorem dX7_blendOf_34 : decode cX7_blendOf 34 = .ok (.aload_n 1, 1) := by decide +kernel
theorem dX7_blendOf_35 : decode cX7_blendOf 35 = .ok (.iconst 0, 1) := by decide +kernel
theorem dX7_blendOf_36 : decode cX7_blendOf 36 = .ok (.iaload, 1) := by decide +kernel
theorem dX7_blendOf_37 : decode cX7_blendOf 37 = .ok (.aload_n 1, 1) := by decide +kernel
theorem dX7_blendOf_38 : decode cX7_blendOf 38 = .ok (.iconst 5, 1) := by decide +kernel
theorem dX7_blendOf_39 : decode cX7_blendOf 39 = .ok (.iaload, 1) := by decide +kernel
theorem dX7_blendOf_40 : decode cX7_blendOf 40 = .ok (.invokestatic 52, 3) := by decide +kernel
theorem dX7_blendOf_43 : decode cX7_blendOf 43 = .ok (.iastore, 1) := by decide +kernel
theorem dX7_blendOf_44 : decode cX7_blendOf 44 = .ok (.aload_n 2, 1) := by decide +kernel
theorem dX7_blendOf_45 : decode cX7_blendOf 45 = .ok (.bipush 7, 2) := by decide +kernel
theorem dX7_blendOf_47 : decode cX7_blendOf 47 = .ok (.aload_n 0, 1) := by decide +kernel
theorem dX7_blendOf_48 : decode cX7_blendOf 48 = .ok (.bipush 7, 2) := by decide +kernel
theorem dX7_blendOf_50 : decode cX7_blendOf 50 = .ok (.iaload, 1) := by decide +kernel
theorem dX7_blendOf_51 : decode cX7_blendOf 51 = .ok (.aload_n 1, 1) := by decide +kernel
theorem dX7_blendOf_52 : decode cX7_blendOf 52 = .ok (.bipush 7, 2) := by decide +kernel
theorem dX7_blendOf_54 : decode cX7_blendOf 54 = .ok (.iaload, 1) := by decide +kernel
theorem dX7_blendOf_55 : decode cX7_blendOf 55 = .ok (.invokestatic 86, 3) := by decide +kernel
theorem dX7_blendOf_58 : decode cX7_blendOf 58 = .ok (.iastore, 1) := by decide +kernel
theorem dX7_blendOf_59 : decode cX7_blendOf 59 = .ok (.aload_n 2, 1) := by decide +kernel
theorem dX7_blendOf_60 : decode cX7_blendOf 60 = .ok (.iconst 2, 1) := by decide +kernel
theorem dX7_blendOf_61 : decode cX7_blendOf 61 = .ok (.aload_n 0, 1) := by decide +kernel
theorem dX7_blendOf_62 : decode cX7_blendOf 62 = .ok (.iconst 2, 1) := by decide +kernel
theorem dX7_blendOf_63 : decode cX7_blendOf 63 = .ok (.iaload, 1) := by decide +kernel
theorem dX7_blendOf_64 : decode cX7_blendOf 64 = .ok (.aload_n 1, 1) := by decide +kernel
theorem dX7_blendOf_65 : decode cX7_blendOf 65 = .ok (.iconst 2, 1) := by decide +kernel
theorem dX7_blendOf_66 : decode cX7_blendOf 66 = .ok (.iaload, 1) := by decide +kernel
theorem dX7_blendOf_67 : decode cX7_blendOf 67 = .ok (.invokestatic 86, 3) := by decide +kernel
theorem dX7_blendOf_70 : decode cX7_blendOf 70 = .ok (.iastore, 1) := by decide +kernel
theorem dX7_blendOf_71 : decode cX7_blendOf 71 = .ok (.aload_n 2, 1) := by decide +kernel
theorem dX7_blendOf_72 : decode cX7_blendOf 72 = .ok (.aload_n 1, 1) := by decide +kernel
theorem dX7_blendOf_73 : decode cX7_blendOf 73 = .ok (.invokestatic 135, 3) := by decide +kernel
theorem dX7_blendOf_76 : decode cX7_blendOf 76 = .ok (.aload_n 2, 1) := by decide +kernel
theorem dX7_blendOf_77 : decode cX7_blendOf 77 = .ok (.areturn, 1) := by decide +kernel
theorem dX7_canBlend_0 : decode cX7_canBlend 0 = .ok (.aload_n 0, 1) := by decide +kernel
theorem dX7_canBlend_1 : decode cX7_canBlend 1 = .ok (.invokestatic 173, 3) := by decide +kernel
theorem dX7_canBlend_4 : decode cX7_canBlend 4 = .ok (.ifCond .eq 23, 3) := by decide +kernel
theorem dX7_canBlend_7 : decode cX7_canBlend 7 = .ok (.aload_n 1, 1) := by decide +kernel
theorem dX7_canBlend_8 : decode cX7_canBlend 8 = .ok (.invokestatic 173, 3) := by decide +kernel
theorem dX7_canBlend_11 : decode cX7_canBlend 11 = .ok (.ifCond .eq 16, 3) := by decide +kernel
theorem dX7_canBlend_14 : decode cX7_canBlend 14 = .ok (.aload_n 0, 1) := by decide +kernel
theorem dX7_canBlend_15 : decode cX7_canBlend 15 = .ok (.iconst 4, 1) := by decide +kernel
theorem dX7_canBlend_16 : decode cX7_canBlend 16 = .ok (.iaload, 1) := by decide +kernel
theorem dX7_canBlend_17 : decode cX7_canBlend 17 = .ok (.aload_n 1, 1) := by decide +kernel
theorem dX7_canBlend_18 : decode cX7_canBlend 18 = .ok (.iconst 4, 1) := by decide +kernel
theorem dX7_canBlend_19 : decode cX7_canBlend 19 = .ok (.iaload, 1) := by decide +kernel
theorem dX7_canBlend_20 : decode cX7_canBlend 20 = .ok (.if_icmp .ne 7, 3) := by decide +kernel
theorem dX7_canBlend_23 : decode cX7_canBlend 23 = .ok (.iconst 1, 1) := by decide +kernel
theorem dX7_canBlend_24 : decode cX7_canBlend 24 = .ok (.goto 4, 3) := by decide +kernel
theorem dX7_canBlend_27 : decode cX7_canBlend 27 = .ok (.iconst 0, 1) := by decide +kernel
theorem dX7_canBlend_28 : decode cX7_canBlend 28 = .ok (.ireturn, 1) := by decide +kernel
theorem dX7_blend_0 : decode cX7_blend 0 = .ok (.aload_n 0, 1) := by decide +kernel
theorem dX7_blend_1 : decode cX7_blend 1 = .ok (.iconst 0, 1) := by decide +kernel
theorem dX7_blend_2 : decode cX7_blend 2 = .ok (.putfield 41, 3) := by decide +kernel
theorem dX7_blend_5 : decode cX7_blend 5 = .ok (.aload_n 0, 1) := by decide +kernel
theorem dX7_blend_6 : decode cX7_blend 6 = .ok (.iload_n 1, 1) := by decide +kernel
theorem dX7_blend_7 : decode cX7_blend 7 = .ok (.invokevirtual 170, 3) := by decide +kernel
theorem dX7_blend_10 : decode cX7_blend 10 = .ok (.ifCond .eq 11, 3) := by decide +kernel
theorem dX7_blend_13 : decode cX7_blend 13 = .ok (.aload_n 0, 1) := by decide +kernel
theorem dX7_blend_14 : decode cX7_blend 14 = .ok (.iload_n 2, 1) := by decide +kernel
theorem dX7_blend_15 : decode cX7_blend 15 = .ok (.invokevirtual 170, 3) := by decide +kernel
theorem dX7_blend_18 : decode cX7_blend 18 = .ok (.ifCond .ne 9, 3) := by decide +kernel
theorem dX7_blend_21 : decode cX7_blend 21 = .ok (.aload_n 0, 1) := by decide +kernel
theorem dX7_blend_22 : decode cX7_blend 22 = .ok (.iconst 1, 1) := by decide +kernel
theorem dX7_blend_23 : decode cX7_blend 23 = .ok (.invokevirtual 56, 3) := by decide +kernel
theorem dX7_blend_26 : decode cX7_blend 26 = .ok (.ireturn, 1) := by decide +kernel
theorem dX7_blend_27 : decode cX7_blend 27 = .ok (.iload_n 1, 1) := by decide +kernel
theorem dX7_blend_28 : decode cX7_blend 28 = .ok (.iload_n 2, 1) := by decide +kernel
theorem dX7_blend_29 : decode cX7_blend 29 = .ok (.if_icmp .ne 9, 3) := by decide +kernel
theorem dX7_blend_32 : decode cX7_blend 32 = .ok (.aload_n 0, 1) := by decide +kernel
theorem dX7_blend_33 : decode cX7_blend 33 = .ok (.iconst 2, 1) := by decide +kernel
theorem dX7_blend_34 : decode cX7_blend 34 = .ok (.invokevirtual 56, 3) := by decide +kernel
theorem dX7_blend_37 : decode cX7_blend 37 = .ok (.ireturn, 1) := by decide +kernel
theorem dX7_blend_38 : decode cX7_blend 38 = .ok (.aload_n 0, 1) := by decide +kernel
theorem dX7_blend_39 : decode cX7_blend 39 = .ok (.getfield 27, 3) := by decide +kernel
theorem dX7_blend_42 : decode cX7_blend 42 = .ok (.iload_n 2, 1) := by decide +kernel
theorem dX7_blend_43 : decode cX7_blend 43 = .ok (.invokevirtual 68, 3) := by decide +kernel
theorem dX7_blend_46 : decode cX7_blend 46 = .ok (.checkcast 72, 3) := by decide +kernel
theorem dX7_blend_49 : decode cX7_blend 49 = .ok (.astore_n 3, 1) := by decide +kernel
theorem dX7_blend_50 : decode cX7_blend 50 = .ok (.aload_n 0, 1) := by decide +kernel
theorem dX7_blend_51 : decode cX7_blend 51 = .ok (.getfield 27, 3) := by decide +kernel
theorem dX7_blend_54 : decode cX7_blend 54 = .ok (.iload_n 1, 1) := by decide +kernel
theorem dX7_blend_55 : decode cX7_blend 55 = .ok (.invokevirtual 68, 3) := by decide +kernel
theorem dX7_blend_58 : decode cX7_blend 58 = .ok (.checkcast 72, 3) := by decide +kernel
theorem dX7_blend_61 : decode cX7_blend 61 = .ok (.aload_n 3, 1) := by decide +kernel
theorem dX7_blend_62 : decode cX7_blend 62 = .ok (.invokestatic 184, 3) := by decide +kernel
theorem dX7_blend_65 : decode cX7_blend 65 = .ok (.ifCond .ne 9, 3) := by decide +kernel
theorem dX7_blend_68 : decode cX7_blend 68 = .ok (.aload_n 0, 1) := by decide +kernel
theorem dX7_blend_69 : decode cX7_blend 69 = .ok (.iconst 3, 1) := by decide +kernel
theorem dX7_blend_70 : decode cX7_blend 70 = .ok (.invokevirtual 56, 3) := by decide +kernel
theorem dX7_blend_73 : decode cX7_blend 73 = .ok (.ireturn, 1) := by decide +kernel
theorem dX7_blend_74 : decode cX7_blend 74 = .ok (.aload_n 0, 1) := by decide +kernel
theorem dX7_blend_75 : decode cX7_blend 75 = .ok (.getfield 27, 3) := by decide +kernel
theorem dX7_blend_78 : decode cX7_blend 78 = .ok (.iload_n 1, 1) := by decide +kernel
theorem dX7_blend_79 : decode cX7_blend 79 = .ok (.aload_n 0, 1) := by decide +kernel
theorem dX7_blend_80 : decode cX7_blend 80 = .ok (.getfield 27, 3) := by decide +kernel
theorem dX7_blend_83 : decode cX7_blend 83 = .ok (.iload_n 1, 1) := by decide +kernel
theorem dX7_blend_84 : decode cX7_blend 84 = .ok (.invokevirtual 68, 3) := by decide +kernel
theorem dX7_blend_87 : decode cX7_blend 87 = .ok (.checkcast 72, 3) := by decide +kernel
theorem dX7_blend_90 : decode cX7_blend 90 = .ok (.aload_n 3, 1) := by decide +kernel
theorem dX7_blend_91 : decode cX7_blend 91 = .ok (.invokestatic 188, 3) := by decide +kernel
theorem dX7_blend_94 : decode cX7_blend 94 = .ok (.invokevirtual 192, 3) := by decide +kernel
theorem dX7_blend_97 : decode cX7_blend 97 = .ok (.pop, 1) := by decide +kernel
theorem dX7_blend_98 : decode cX7_blend 98 = .ok (.aload_n 0, 1) := by decide +kernel
theorem dX7_blend_99 : decode cX7_blend 99 = .ok (.iload_n 1, 1) := by decide +kernel
theorem dX7_blend_100 : decode cX7_blend 100 = .ok (.invokevirtual 160, 3) := by decide +kernel
theorem dX7_blend_103 : decode cX7_blend 103 = .ok (.aload_n 0, 1) := by decide +kernel
theorem dX7_blend_104 : decode cX7_blend 104 = .ok (.iload_n 2, 1) := by decide +kernel
theorem dX7_blend_105 : decode cX7_blend 105 = .ok (.invokevirtual 160, 3) := by decide +kernel
theorem dX7_blend_108 : decode cX7_blend 108 = .ok (.aload_n 3, 1) := by decide +kernel
theorem dX7_blend_109 : decode cX7_blend 109 = .ok (.iconst 0, 1) := by decide +kernel
theorem dX7_blend_110 : decode cX7_blend 110 = .ok (.iconst 0, 1) := by decide +kernel
theorem dX7_blend_111 : decode cX7_blend 111 = .ok (.iastore, 1) := by decide +kernel
theorem dX7_blend_112 : decode cX7_blend 112 = .ok (.aload_n 3, 1) := by decide +kernel
theorem dX7_blend_113 : decode cX7_blend 113 = .ok (.iconst 1, 1) := by decide +kernel
theorem dX7_blend_114 : decode cX7_blend 114 = .ok (.iconst 0, 1) := by decide +kernel
theorem dX7_blend_115 : decode cX7_blend 115 = .ok (.iastore, 1) := by decide +kernel
theorem dX7_blend_116 : decode cX7_blend 116 = .ok (.aload_n 3, 1) := by decide +kernel
theorem dX7_blend_117 : decode cX7_blend 117 = .ok (.bipush 10, 2) := by decide +kernel
theorem dX7_blend_119 : decode cX7_blend 119 = .ok (.iconst 0, 1) := by decide +kernel
theorem dX7_blend_120 : decode cX7_blend 120 = .ok (.iastore, 1) := by decide +kernel
theorem dX7_blend_121 : decode cX7_blend 121 = .ok (.bipush 11, 2) := by decide +kernel
theorem dX7_blend_123 : decode cX7_blend 123 = .ok (.istore 4, 2) := by decide +kernel
theorem dX7_blend_125 : decode cX7_blend 125 = .ok (.iload 4, 2) := by decide +kernel
theorem dX7_blend_127 : decode cX7_blend 127 = .ok (.bipush 23, 2) := by decide +kernel
theorem dX7_blend_129 : decode cX7_blend 129 = .ok (.if_icmp .ge 14, 3) := by decide +kernel
theorem dX7_blend_132 : decode cX7_blend 132 = .ok (.aload_n 3, 1) := by decide +kernel
theorem dX7_blend_133 : decode cX7_blend 133 = .ok (.iload 4, 2) := by decide +kernel
theorem dX7_blend_135 : decode cX7_blend 135 = .ok (.iconst 0, 1) := by decide +kernel
theorem dX7_blend_136 : decode cX7_blend 136 = .ok (.iastore, 1) := by decide +kernel
theorem dX7_blend_137 : decode cX7_blend 137 = .ok (.iinc 4 1, 3) := by decide +kernel
theorem dX7_blend_140 : decode cX7_blend 140 = .ok (.goto (-15), 3) := by decide +kernel
theorem dX7_blend_143 : decode cX7_blend 143 = .ok (.aload_n 0, 1) := by decide +kernel
theorem dX7_blend_144 : decode cX7_blend 144 = .ok (.getfield 27, 3) := by decide +kernel
theorem dX7_blend_147 : decode cX7_blend 147 = .ok (.iload_n 1, 1) := by decide +kernel
theorem dX7_blend_148 : decode cX7_blend 148 = .ok (.invokevirtual 68, 3) := by decide +kernel
theorem dX7_blend_151 : decode cX7_blend 151 = .ok (.checkcast 72, 3) := by decide +kernel
theorem dX7_blend_154 : decode cX7_blend 154 = .ok (.iconst 0, 1) := by decide +kernel
theorem dX7_blend_155 : decode cX7_blend 155 = .ok (.iaload, 1) := by decide +kernel
theorem dX7_blend_156 : decode cX7_blend 156 = .ok (.ireturn, 1) := by decide +kernel
theorem dX7_brings_0 : decode cX7_brings 0 = .ok (.aload_n 0, 1) := by decide +kernel
theorem dX7_brings_1 : decode cX7_brings 1 = .ok (.getfield 27, 3) := by decide +kernel
theorem dX7_brings_4 : decode cX7_brings 4 = .ok (.iload_n 1, 1) := by decide +kernel
theorem dX7_brings_5 : decode cX7_brings 5 = .ok (.invokevirtual 68, 3) := by decide +kernel
theorem dX7_brings_8 : decode cX7_brings 8 = .ok (.checkcast 72, 3) := by decide +kernel
theorem dX7_brings_11 : decode cX7_brings 11 = .ok (.astore 4, 2) := by decide +kernel
theorem dX7_brings_13 : decode cX7_brings 13 = .ok (.aload 4, 2) := by decide +kernel
theorem dX7_brings_15 : decode cX7_brings 15 = .ok (.iconst 0, 1) := by decide +kernel
theorem dX7_brings_16 : decode cX7_brings 16 = .ok (.iaload, 1) := by decide +kernel
theorem dX7_brings_17 : decode cX7_brings 17 = .ok (.iload_n 2, 1) := by decide +kernel
theorem dX7_brings_18 : decode cX7_brings 18 = .ok (.imul, 1) := by decide +kernel
theorem dX7_brings_19 : decode cX7_brings 19 = .ok (.iload_n 3, 1) := by decide +kernel
theorem dX7_brings_20 : decode cX7_brings 20 = .ok (.ifCond .eq 26, 3) := by decide +kernel
theorem dX7_brings_23 : decode cX7_brings 23 = .ok (.aload_n 0, 1) := by decide +kernel
theorem dX7_brings_24 : decode cX7_brings 24 = .ok (.iload_n 1, 1) := by decide +kernel
theorem dX7_brings_25 : decode cX7_brings 25 = .ok (.invokevirtual 196, 3) := by decide +kernel
theorem dX7_brings_28 : decode cX7_brings 28 = .ok (.bipush 80, 2) := by decide +kernel
theorem dX7_brings_30 : decode cX7_brings 30 = .ok (.if_icmp .lt 16, 3) := by decide +kernel
theorem dX7_brings_33 : decode cX7_brings 33 = .ok (.bipush 10, 2) := by decide +kernel
theorem dX7_brings_35 : decode cX7_brings 35 = .ok (.aload 4, 2) := by decide +kernel
theorem dX7_brings_37 : decode cX7_brings 37 = .ok (.bipush 17, 2) := by decide +kernel
theorem dX7_brings_39 : decode cX7_brings 39 = .ok (.invokestatic 157, 3) := by decide +kernel
theorem dX7_brings_42 : decode cX7_brings 42 = .ok (.imul, 1) := by decide +kernel
theorem dX7_brings_43 : decode cX7_brings 43 = .ok (.goto 4, 3) := by decide +kernel
theorem dX7_brings_46 : decode cX7_brings 46 = .ok (.iconst 0, 1) := by decide +kernel
theorem dX7_brings_47 : decode cX7_brings 47 = .ok (.iadd, 1) := by decide +kernel
theorem dX7_brings_48 : decode cX7_brings 48 = .ok (.ireturn, 1) := by decide +kernel
theorem dX7_share_0 : decode cX7_share 0 = .ok (.aload_n 0, 1) := by decide +kernel
theorem dX7_share_1 : decode cX7_share 1 = .ok (.getfield 27, 3) := by decide +kernel
theorem dX7_share_4 : decode cX7_share 4 = .ok (.iload_n 1, 1) := by decide +kernel
theorem dX7_share_5 : decode cX7_share 5 = .ok (.invokevirtual 68, 3) := by decide +kernel
theorem dX7_share_8 : decode cX7_share 8 = .ok (.checkcast 72, 3) := by decide +kernel
theorem dX7_share_11 : decode cX7_share 11 = .ok (.astore 5, 2) := by decide +kernel
theorem dX7_share_13 : decode cX7_share 13 = .ok (.aload_n 0, 1) := by decide +kernel
theorem dX7_share_14 : decode cX7_share 14 = .ok (.iload_n 1, 1) := by decide +kernel
theorem dX7_share_15 : decode cX7_share 15 = .ok (.iload_n 3, 1) := by decide +kernel
theorem dX7_share_16 : decode cX7_share 16 = .ok (.iload 4, 2) := by decide +kernel
theorem dX7_share_18 : decode cX7_share 18 = .ok (.invokevirtual 199, 3) := by decide +kernel
theorem dX7_share_21 : decode cX7_share 21 = .ok (.i2l, 1) := by decide +kernel
theorem dX7_share_22 : decode cX7_share 22 = .ok (.aload 5, 2) := by decide +kernel
theorem dX7_share_24 : decode cX7_share 24 = .ok (.bipush 11, 2) := by decide +kernel
theorem dX7_share_26 : decode cX7_share 26 = .ok (.iload_n 2, 1) := by decide +kernel
theorem dX7_share_27 : decode cX7_share 27 = .ok (.iadd, 1) := by decide +kernel
theorem dX7_share_28 : decode cX7_share 28 = .ok (.iaload, 1) := by decide +kernel
theorem dX7_share_29 : decode cX7_share 29 = .ok (.i2l, 1) := by decide +kernel
theorem dX7_share_30 : decode cX7_share 30 = .ok (.lmul, 1) := by decide +kernel
theorem dX7_share_31 : decode cX7_share 31 = .ok (.ldc2_w 203, 3) := by decide +kernel
theorem dX7_share_34 : decode cX7_share 34 = .ok (.lmul, 1) := by decide +kernel
theorem dX7_share_35 : decode cX7_share 35 = .ok (.ldc2_w 205, 3) := by decide +kernel
theorem dX7_share_38 : decode cX7_share 38 = .ok (.aload 5, 2) := by decide +kernel
theorem dX7_share_40 : decode cX7_share 40 = .ok (.iconst 0, 1) := by decide +kernel
theorem dX7_share_41 : decode cX7_share 41 = .ok (.iaload, 1) := by decide +kernel
theorem dX7_share_42 : decode cX7_share 42 = .ok (.i2l, 1) := by decide +kernel
theorem dX7_share_43 : decode cX7_share 43 = .ok (.lmul, 1) := by decide +kernel
theorem dX7_share_44 : decode cX7_share 44 = .ok (.ldiv, 1) := by decide +kernel
theorem dX7_share_45 : decode cX7_share 45 = .ok (.l2i, 1) := by decide +kernel
theorem dX7_share_46 : decode cX7_share 46 = .ok (.ireturn, 1) := by decide +kernel
theorem dX7_canSell_0 : decode cX7_canSell 0 = .ok (.aload_n 0, 1) := by decide +kernel
theorem dX7_canSell_1 : decode cX7_canSell 1 = .ok (.getfield 27, 3) := by decide +kernel
theorem dX7_canSell_4 : decode cX7_canSell 4 = .ok (.iload_n 1, 1) := by decide +kernel
theorem dX7_canSell_5 : decode cX7_canSell 5 = .ok (.invokevirtual 68, 3) := by decide +kernel
theorem dX7_canSell_8 : decode cX7_canSell 8 = .ok (.checkcast 72, 3) := by decide +kernel
theorem dX7_canSell_11 : decode cX7_canSell 11 = .ok (.invokestatic 173, 3) := by decide +kernel
theorem dX7_canSell_14 : decode cX7_canSell 14 = .ok (.ifCond .eq 16, 3) := by decide +kernel
theorem dX7_canSell_17 : decode cX7_canSell 17 = .ok (.aload_n 0, 1) := by decide +kernel
theorem dX7_canSell_18 : decode cX7_canSell 18 = .ok (.iload_n 1, 1) := by decide +kernel
theorem dX7_canSell_19 : decode cX7_canSell 19 = .ok (.invokevirtual 196, 3) := by decide +kernel
theorem dX7_canSell_22 : decode cX7_canSell 22 = .ok (.iconst (-1), 1) := by decide +kernel
theorem dX7_canSell_23 : decode cX7_canSell 23 = .ok (.if_icmp .eq 7, 3) := by decide +kernel
theorem dX7_canSell_26 : decode cX7_canSell 26 = .ok (.iconst 1, 1) := by decide +kernel
theorem dX7_canSell_27 : decode cX7_canSell 27 = .ok (.goto 4, 3) := by decide +kernel
theorem dX7_canSell_30 : decode cX7_canSell 30 = .ok (.iconst 0, 1) := by decide +kernel
theorem dX7_canSell_31 : decode cX7_canSell 31 = .ok (.ireturn, 1) := by decide +kernel
theorem dX7_sell_0 : decode cX7_sell 0 = .ok (.aload_n 0, 1) := by decide +kernel
theorem dX7_sell_1 : decode cX7_sell 1 = .ok (.iconst 0, 1) := by decide +kernel
theorem dX7_sell_2 : decode cX7_sell 2 = .ok (.putfield 41, 3) := by decide +kernel
theorem dX7_sell_5 : decode cX7_sell 5 = .ok (.aload_n 0, 1) := by decide +kernel
theorem dX7_sell_6 : decode cX7_sell 6 = .ok (.iload_n 1, 1) := by decide +kernel
theorem dX7_sell_7 : decode cX7_sell 7 = .ok (.invokevirtual 170, 3) := by decide +kernel
theorem dX7_sell_10 : decode cX7_sell 10 = .ok (.ifCond .ne 9, 3) := by decide +kernel
theorem dX7_sell_13 : decode cX7_sell 13 = .ok (.aload_n 0, 1) := by decide +kernel
theorem dX7_sell_14 : decode cX7_sell 14 = .ok (.iconst 1, 1) := by decide +kernel
theorem dX7_sell_15 : decode cX7_sell 15 = .ok (.invokevirtual 56, 3) := by decide +kernel
theorem dX7_sell_18 : decode cX7_sell 18 = .ok (.ireturn, 1) := by decide +kernel
theorem dX7_sell_19 : decode cX7_sell 19 = .ok (.iload_n 2, 1) := by decide +kernel
theorem dX7_sell_20 : decode cX7_sell 20 = .ok (.iconst 1, 1) := by decide +kernel
theorem dX7_sell_21 : decode cX7_sell 21 = .ok (.sipush 200, 3) := by decide +kernel
theorem dX7_sell_24 : decode cX7_sell 24 = .ok (.invokestatic 48, 3) := by decide +kernel
theorem dX7_sell_27 : decode cX7_sell 27 = .ok (.ifCond .ne 9, 3) := by decide +kernel
theorem dX7_sell_30 : decode cX7_sell 30 = .ok (.aload_n 0, 1) := by decide +kernel
theorem dX7_sell_31 : decode cX7_sell 31 = .ok (.iconst 2, 1) := by decide +kernel
theorem dX7_sell_32 : decode cX7_sell 32 = .ok (.invokevirtual 56, 3) := by decide +kernel
theorem dX7_sell_35 : decode cX7_sell 35 = .ok (.ireturn, 1) := by decide +kernel
theorem dX7_sell_36 : decode cX7_sell 36 = .ok (.aload_n 0, 1) := by decide +kernel
theorem dX7_sell_37 : decode cX7_sell 37 = .ok (.iload_n 1, 1) := by decide +kernel
theorem dX7_sell_38 : decode cX7_sell 38 = .ok (.invokevirtual 207, 3) := by decide +kernel
theorem dX7_sell_41 : decode cX7_sell 41 = .ok (.ifCond .ne 9, 3) := by decide +kernel
theorem dX7_sell_44 : decode cX7_sell 44 = .ok (.aload_n 0, 1) := by decide +kernel
theorem dX7_sell_45 : decode cX7_sell 45 = .ok (.iconst 3, 1) := by decide +kernel
theorem dX7_sell_46 : decode cX7_sell 46 = .ok (.invokevirtual 56, 3) := by decide +kernel
theorem dX7_sell_49 : decode cX7_sell 49 = .ok (.ireturn, 1) := by decide +kernel
theorem dX7_sell_50 : decode cX7_sell 50 = .ok (.aload_n 0, 1) := by decide +kernel
theorem dX7_sell_51 : decode cX7_sell 51 = .ok (.iload_n 1, 1) := by decide +kernel
theorem dX7_sell_52 : decode cX7_sell 52 = .ok (.iload_n 2, 1) := by decide +kernel
theorem dX7_sell_53 : decode cX7_sell 53 = .ok (.iload_n 3, 1) := by decide +kernel
theorem dX7_sell_54 : decode cX7_sell 54 = .ok (.invokevirtual 199, 3) := by decide +kernel
theorem dX7_sell_57 : decode cX7_sell 57 = .ok (.istore 4, 2) := by decide +kernel
theorem dX7_sell_59 : decode cX7_sell 59 = .ok (.iconst 0, 1) := by decide +kernel
theorem dX7_sell_60 : decode cX7_sell 60 = .ok (.istore 5, 2) := by decide +kernel
theorem dX7_sell_62 : decode cX7_sell 62 = .ok (.iload 5, 2) := by decide +kernel
theorem dX7_sell_64 : decode cX7_sell 64 = .ok (.aload_n 0, 1) := by decide +kernel
theorem dX7_sell_65 : decode cX7_sell 65 = .ok (.getfield 12, 3) := by decide +kernel
theorem dX7_sell_68 : decode cX7_sell 68 = .ok (.invokevirtual 44, 3) := by decide +kernel
theorem dX7_sell_71 : decode cX7_sell 71 = .ok (.if_icmp .ge 46, 3) := by decide +kernel
theorem dX7_sell_74 : decode cX7_sell 74 = .ok (.aload_n 0, 1) := by decide +kernel
theorem dX7_sell_75 : decode cX7_sell 75 = .ok (.iload_n 1, 1) := by decide +kernel
theorem dX7_sell_76 : decode cX7_sell 76 = .ok (.iload 5, 2) := by decide +kernel
theorem dX7_sell_78 : decode cX7_sell 78 = .ok (.iload_n 2, 1) := by decide +kernel
theorem dX7_sell_79 : decode cX7_sell 79 = .ok (.iload_n 3, 1) := by decide +kernel
theorem dX7_sell_80 : decode cX7_sell 80 = .ok (.invokevirtual 210, 3) := by decide +kernel
theorem dX7_sell_83 : decode cX7_sell 83 = .ok (.istore 6, 2) := by decide +kernel
theorem dX7_sell_85 : decode cX7_sell 85 = .ok (.aload_n 0, 1) := by decide +kernel
theorem dX7_sell_86 : decode cX7_sell 86 = .ok (.getfield 12, 3) := by decide +kernel
theorem dX7_sell_89 : decode cX7_sell 89 = .ok (.iload 5, 2) := by decide +kernel
theorem dX7_sell_91 : decode cX7_sell 91 = .ok (.invokevirtual 68, 3) := by decide +kernel
theorem dX7_sell_94 : decode cX7_sell 94 = .ok (.checkcast 72, 3) := by decide +kernel
theorem dX7_sell_97 : decode cX7_sell 97 = .ok (.iconst 2, 1) := by decide +kernel
theorem dX7_sell_98 : decode cX7_sell 98 = .ok (.dup2, 1) := by decide +kernel
theorem dX7_sell_99 : decode cX7_sell 99 = .ok (.iaload, 1) := by decide +kernel
theorem dX7_sell_100 : decode cX7_sell 100 = .ok (.iload 6, 2) := by decide +kernel
theorem dX7_sell_102 : decode cX7_sell 102 = .ok (.iadd, 1) := by decide +kernel
theorem dX7_sell_103 : decode cX7_sell 103 = .ok (.iastore, 1) := by decide +kernel
theorem dX7_sell_104 : decode cX7_sell 104 = .ok (.iload 4, 2) := by decide +kernel
theorem dX7_sell_106 : decode cX7_sell 106 = .ok (.iload 6, 2) := by decide +kernel
theorem dX7_sell_108 : decode cX7_sell 108 = .ok (.isub, 1) := by decide +kernel
theorem dX7_sell_109 : decode cX7_sell 109 = .ok (.istore 4, 2) := by decide +kernel
theorem dX7_sell_111 : decode cX7_sell 111 = .ok (.iinc 5 1, 3) := by decide +kernel
theorem dX7_sell_114 : decode cX7_sell 114 = .ok (.goto (-52), 3) := by decide +kernel
theorem dX7_sell_117 : decode cX7_sell 117 = .ok (.aload_n 0, 1) := by decide +kernel
theorem dX7_sell_118 : decode cX7_sell 118 = .ok (.dup, 1) := by decide +kernel
theorem dX7_sell_119 : decode cX7_sell 119 = .ok (.getfield 79, 3) := by decide +kernel
theorem dX7_sell_122 : decode cX7_sell 122 = .ok (.iload 4, 2) := by decide +kernel
theorem dX7_sell_124 : decode cX7_sell 124 = .ok (.iadd, 1) := by decide +kernel
theorem dX7_sell_125 : decode cX7_sell 125 = .ok (.putfield 79, 3) := by decide +kernel
theorem dX7_sell_128 : decode cX7_sell 128 = .ok (.aload_n 0, 1) := by decide +kernel
theorem dX7_sell_129 : decode cX7_sell 129 = .ok (.dup, 1) := by decide +kernel
theorem dX7_sell_130 : decode cX7_sell 130 = .ok (.getfield 214, 3) := by decide +kernel
theorem dX7_sell_133 : decode cX7_sell 133 = .ok (.aload_n 0, 1) := by decide +kernel
theorem dX7_sell_134 : decode cX7_sell 134 = .ok (.getfield 27, 3) := by decide +kernel
theorem dX7_sell_137 : decode cX7_sell 137 = .ok (.iload_n 1, 1) := by decide +kernel
theorem dX7_sell_138 : decode cX7_sell 138 = .ok (.invokevirtual 68, 3) := by decide +kernel
theorem dX7_sell_141 : decode cX7_sell 141 = .ok (.checkcast 72, 3) := by decide +kernel
theorem dX7_sell_144 : decode cX7_sell 144 = .ok (.iconst 0, 1) := by decide +kernel
theorem dX7_sell_145 : decode cX7_sell 145 = .ok (.iaload, 1) := by decide +kernel
theorem dX7_sell_146 : decode cX7_sell 146 = .ok (.iadd, 1) := by decide +kernel
theorem dX7_sell_147 : decode cX7_sell 147 = .ok (.putfield 214, 3) := by decide +kernel
theorem dX7_sell_150 : decode cX7_sell 150 = .ok (.aload_n 0, 1) := by decide +kernel
theorem dX7_sell_151 : decode cX7_sell 151 = .ok (.getfield 27, 3) := by decide +kernel
theorem dX7_sell_154 : decode cX7_sell 154 = .ok (.iload_n 1, 1) := by decide +kernel
theorem dX7_sell_155 : decode cX7_sell 155 = .ok (.invokevirtual 68, 3) := by decide +kernel
theorem dX7_sell_158 : decode cX7_sell 158 = .ok (.checkcast 72, 3) := by decide +kernel
theorem dX7_sell_161 : decode cX7_sell 161 = .ok (.bipush 10, 2) := by decide +kernel
theorem dX7_sell_163 : decode cX7_sell 163 = .ok (.iconst 0, 1) := by decide +kernel
theorem dX7_sell_164 : decode cX7_sell 164 = .ok (.iastore, 1) := by decide +kernel
theorem dX7_sell_165 : decode cX7_sell 165 = .ok (.iload 4, 2) := by decide +kernel
theorem dX7_sell_167 : decode cX7_sell 167 = .ok (.ireturn, 1) := by decide +kernel
theorem dX7_ofFarmNow_0 : decode cX7_ofFarmNow 0 = .ok (.iload_n 2, 1) := by decide +kernel
theorem dX7_ofFarmNow_1 : decode cX7_ofFarmNow 1 = .ok (.iconst 4, 1) := by decide +kernel
theorem dX7_ofFarmNow_2 : decode cX7_ofFarmNow 2 = .ok (.if_icmp .ge 17, 3) := by decide +kernel
theorem dX7_ofFarmNow_5 : decode cX7_ofFarmNow 5 = .ok (.aload_n 0, 1) := by decide +kernel
theorem dX7_ofFarmNow_6 : decode cX7_ofFarmNow 6 = .ok (.getfield 12, 3) := by decide +kernel
theorem dX7_ofFarmNow_9 : decode cX7_ofFarmNow 9 = .ok (.iload_n 1, 1) := by decide +kernel
theorem dX7_ofFarmNow_10 : decode cX7_ofFarmNow 10 = .ok (.invokevirtual 68, 3) := by decide +kernel
theorem dX7_ofFarmNow_13 : decode cX7_ofFarmNow 13 = .ok (.checkcast 72, 3) := by decide +kernel
theorem dX7_ofFarmNow_16 : decode cX7_ofFarmNow 16 = .ok (.iload_n 2, 1) := by decide +kernel
theorem dX7_ofFarmNow_17 : decode cX7_ofFarmNow 17 = .ok (.iaload, 1) := by decide +kernel
theorem dX7_ofFarmNow_18 : decode cX7_ofFarmNow 18 = .ok (.ireturn, 1) := by decide +kernel
theorem dX7_ofFarmNow_19 : decode cX7_ofFarmNow 19 = .ok (.iconst 0, 1) := by decide +kernel
theorem dX7_ofFarmNow_20 : decode cX7_ofFarmNow 20 = .ok (.istore_n 3, 1) := by decide +kernel
theorem dX7_ofFarmNow_21 : decode cX7_ofFarmNow 21 = .ok (.aload_n 0, 1) := by decide +kernel
theorem dX7_ofFarmNow_22 : decode cX7_ofFarmNow 22 = .ok (.getfield 27, 3) := by decide +kernel
theorem dX7_ofFarmNow_25 : decode cX7_ofFarmNow 25 = .ok (.invokevirtual 92, 3) := by decide +kernel
theorem dX7_ofFarmNow_28 : decode cX7_ofFarmNow 28 = .ok (.astore 4, 2) := by decide +kernel
theorem dX7_ofFarmNow_30 : decode cX7_ofFarmNow 30 = .ok (.aload 4, 2) := by decide +kernel
theorem dX7_ofFarmNow_32 : decode cX7_ofFarmNow 32 = .ok (.invokeinterface 96 1, 5) := by decide +kernel
theorem dX7_ofFarmNow_37 : decode cX7_ofFarmNow 37 = .ok (.ifCond .eq 40, 3) := by decide +kernel
theorem dX7_ofFarmNow_40 : decode cX7_ofFarmNow 40 = .ok (.aload 4, 2) := by decide +kernel
theorem dX7_ofFarmNow_42 : decode cX7_ofFarmNow 42 = .ok (.invokeinterface 102 1, 5) := by decide +kernel
theorem dX7_ofFarmNow_47 : decode cX7_ofFarmNow 47 = .ok (.checkcast 72, 3) := by decide +kernel
theorem dX7_ofFarmNow_50 : decode cX7_ofFarmNow 50 = .ok (.astore 5, 2) := by decide +kernel
theorem dX7_ofFarmNow_52 : decode cX7_ofFarmNow 52 = .ok (.iload_n 3, 1) := by decide +kernel
theorem dX7_ofFarmNow_53 : decode cX7_ofFarmNow 53 = .ok (.aload 5, 2) := by decide +kernel
theorem dX7_ofFarmNow_55 : decode cX7_ofFarmNow 55 = .ok (.invokestatic 173, 3) := by decide +kernel
theorem dX7_ofFarmNow_58 : decode cX7_ofFarmNow 58 = .ok (.ifCond .eq 13, 3) := by decide +kernel
theorem dX7_ofFarmNow_61 : decode cX7_ofFarmNow 61 = .ok (.aload 5, 2) := by decide +kernel
theorem dX7_ofFarmNow_63 : decode cX7_ofFarmNow 63 = .ok (.bipush 11, 2) := by decide +kernel
theorem dX7_ofFarmNow_65 : decode cX7_ofFarmNow 65 = .ok (.iload_n 1, 1) := by decide +kernel
theorem dX7_ofFarmNow_66 : decode cX7_ofFarmNow 66 = .ok (.iadd, 1) := by decide +kernel
theorem dX7_ofFarmNow_67 : decode cX7_ofFarmNow 67 = .ok (.iaload, 1) := by decide +kernel
theorem dX7_ofFarmNow_68 : decode cX7_ofFarmNow 68 = .ok (.goto 4, 3) := by decide +kernel
theorem dX7_ofFarmNow_71 : decode cX7_ofFarmNow 71 = .ok (.iconst 0, 1) := by decide +kernel
theorem dX7_ofFarmNow_72 : decode cX7_ofFarmNow 72 = .ok (.iadd, 1) := by decide +kernel
theorem dX7_ofFarmNow_73 : decode cX7_ofFarmNow 73 = .ok (.istore_n 3, 1) := by decide +kernel
theorem dX7_ofFarmNow_74 : decode cX7_ofFarmNow 74 = .ok (.goto (-44), 3) := by decide +kernel
theorem dX7_ofFarmNow_77 : decode cX7_ofFarmNow 77 = .ok (.iload_n 3, 1) := by decide +kernel
theorem dX7_ofFarmNow_78 : decode cX7_ofFarmNow 78 = .ok (.ireturn, 1) := by decide +kernel
theorem dX7_ofFarm_0 : decode cX7_ofFarm 0 = .ok (.aload_n 0, 1) := by decide +kernel
theorem dX7_ofFarm_1 : decode cX7_ofFarm 1 = .ok (.iconst 0, 1) := by decide +kernel
theorem dX7_ofFarm_2 : decode cX7_ofFarm 2 = .ok (.putfield 41, 3) := by decide +kernel
theorem dX7_ofFarm_5 : decode cX7_ofFarm 5 = .ok (.aload_n 0, 1) := by decide +kernel
theorem dX7_ofFarm_6 : decode cX7_ofFarm 6 = .ok (.iload_n 1, 1) := by decide +kernel
theorem dX7_ofFarm_7 : decode cX7_ofFarm 7 = .ok (.invokevirtual 64, 3) := by decide +kernel
theorem dX7_ofFarm_10 : decode cX7_ofFarm 10 = .ok (.ifCond .ne 9, 3) := by decide +kernel
theorem dX7_ofFarm_13 : decode cX7_ofFarm 13 = .ok (.aload_n 0, 1) := by decide +kernel
theorem dX7_ofFarm_14 : decode cX7_ofFarm 14 = .ok (.iconst 1, 1) := by decide +kernel
theorem dX7_ofFarm_15 : decode cX7_ofFarm 15 = .ok (.invokevirtual 56, 3) := by decide +kernel
theorem dX7_ofFarm_18 : decode cX7_ofFarm 18 = .ok (.ireturn, 1) := by decide +kernel
theorem dX7_ofFarm_19 : decode cX7_ofFarm 19 = .ok (.iload_n 2, 1) := by decide +kernel
theorem dX7_ofFarm_20 : decode cX7_ofFarm 20 = .ok (.iconst 0, 1) := by decide +kernel
theorem dX7_ofFarm_21 : decode cX7_ofFarm 21 = .ok (.iconst 4, 1) := by decide +kernel
theorem dX7_ofFarm_22 : decode cX7_ofFarm 22 = .ok (.invokestatic 48, 3) := by decide +kernel
theorem dX7_ofFarm_25 : decode cX7_ofFarm 25 = .ok (.ifCond .eq 12, 3) := by decide +kernel
theorem dX7_ofFarm_28 : decode cX7_ofFarm 28 = .ok (.aload_n 0, 1) := by decide +kernel
theorem dX7_ofFarm_29 : decode cX7_ofFarm 29 = .ok (.iload_n 1, 1) := by decide +kernel
theorem dX7_ofFarm_30 : decode cX7_ofFarm 30 = .ok (.iload_n 2, 1) := by decide +kernel
theorem dX7_ofFarm_31 : decode cX7_ofFarm 31 = .ok (.invokevirtual 217, 3) := by decide +kernel
theorem dX7_ofFarm_34 : decode cX7_ofFarm 34 = .ok (.goto 8, 3) := by decide +kernel
theorem dX7_ofFarm_37 : decode cX7_ofFarm 37 = .ok (.aload_n 0, 1) := by decide +kernel
theorem dX7_ofFarm_38 : decode cX7_ofFarm 38 = .ok (.iconst 2, 1) := by decide +kernel
theorem dX7_ofFarm_39 : decode cX7_ofFarm 39 = .ok (.invokevirtual 56, 3) := by decide +kernel
theorem dX7_ofFarm_42 : decode cX7_ofFarm 42 = .ok (.ireturn, 1) := by decide +kernel
theorem dX7_ofBasket_0 : decode cX7_ofBasket 0 = .ok (.aload_n 0, 1) := by decide +kernel
theorem dX7_ofBasket_1 : decode cX7_ofBasket 1 = .ok (.iconst 0, 1) := by decide +kernel
theorem dX7_ofBasket_2 : decode cX7_ofBasket 2 = .ok (.putfield 41, 3) := by decide +kernel
theorem dX7_ofBasket_5 : decode cX7_ofBasket 5 = .ok (.aload_n 0, 1) := by decide +kernel
theorem dX7_ofBasket_6 : decode cX7_ofBasket 6 = .ok (.iload_n 1, 1) := by decide +kernel
theorem dX7_ofBasket_7 : decode cX7_ofBasket 7 = .ok (.invokevirtual 125, 3) := by decide +kernel
theorem dX7_ofBasket_10 : decode cX7_ofBasket 10 = .ok (.ifCond .ne 9, 3) := by decide +kernel
theorem dX7_ofBasket_13 : decode cX7_ofBasket 13 = .ok (.aload_n 0, 1) := by decide +kernel
theorem dX7_ofBasket_14 : decode cX7_ofBasket 14 = .ok (.iconst 1, 1) := by decide +kernel
theorem dX7_ofBasket_15 : decode cX7_ofBasket 15 = .ok (.invokevirtual 56, 3) := by decide +kernel
theorem dX7_ofBasket_18 : decode cX7_ofBasket 18 = .ok (.ireturn, 1) := by decide +kernel
theorem dX7_ofBasket_19 : decode cX7_ofBasket 19 = .ok (.iload_n 2, 1) := by decide +kernel
theorem dX7_ofBasket_20 : decode cX7_ofBasket 20 = .ok (.iconst 0, 1) := by decide +kernel
theorem dX7_ofBasket_21 : decode cX7_ofBasket 21 = .ok (.iconst 5, 1) := by decide +kernel
theorem dX7_ofBasket_22 : decode cX7_ofBasket 22 = .ok (.invokestatic 48, 3) := by decide +kernel
theorem dX7_ofBasket_25 : decode cX7_ofBasket 25 = .ok (.ifCond .eq 19, 3) := by decide +kernel
theorem dX7_ofBasket_28 : decode cX7_ofBasket 28 = .ok (.aload_n 0, 1) := by decide +kernel
theorem dX7_ofBasket_29 : decode cX7_ofBasket 29 = .ok (.getfield 16, 3) := by decide +kernel
theorem dX7_ofBasket_32 : decode cX7_ofBasket 32 = .ok (.iload_n 1, 1) := by decide +kernel
theorem dX7_ofBasket_33 : decode cX7_ofBasket 33 = .ok (.invokevirtual 68, 3) := by decide +kernel
theorem dX7_ofBasket_36 : decode cX7_ofBasket 36 = .ok (.checkcast 72, 3) := by decide +kernel
theorem dX7_ofBasket_39 : decode cX7_ofBasket 39 = .ok (.iload_n 2, 1) := by decide +kernel
theorem dX7_ofBasket_40 : decode cX7_ofBasket 40 = .ok (.iaload, 1) := by decide +kernel
theorem dX7_ofBasket_41 : decode cX7_ofBasket 41 = .ok (.goto 8, 3) := by decide +kernel
theorem dX7_ofBasket_44 : decode cX7_ofBasket 44 = .ok (.aload_n 0, 1) := by decide +kernel
theorem dX7_ofBasket_45 : decode cX7_ofBasket 45 = .ok (.iconst 2, 1) := by decide +kernel
theorem dX7_ofBasket_46 : decode cX7_ofBasket 46 = .ok (.invokevirtual 56, 3) := by decide +kernel
theorem dX7_ofBasket_49 : decode cX7_ofBasket 49 = .ok (.ireturn, 1) := by decide +kernel
theorem dX7_ofTankNow_0 : decode cX7_ofTankNow 0 = .ok (.iload_n 2, 1) := by decide +kernel
theorem dX7_ofTankNow_1 : decode cX7_ofTankNow 1 = .ok (.iconst 4, 1) := by decide +kernel
theorem dX7_ofTankNow_2 : decode cX7_ofTankNow 2 = .ok (.if_icmp .ge 14, 3) := by decide +kernel
theorem dX7_ofTankNow_5 : decode cX7_ofTankNow 5 = .ok (.aload_n 0, 1) := by decide +kernel
theorem dX7_ofTankNow_6 : decode cX7_ofTankNow 6 = .ok (.getfield 21, 3) := by decide +kernel
theorem dX7_ofTankNow_9 : decode cX7_ofTankNow 9 = .ok (.iload_n 1, 1) := by decide +kernel
theorem dX7_ofTankNow_10 : decode cX7_ofTankNow 10 = .ok (.aaload, 1) := by decide +kernel
theorem dX7_ofTankNow_11 : decode cX7_ofTankNow 11 = .ok (.iload_n 2, 1) := by decide +kernel
theorem dX7_ofTankNow_12 : decode cX7_ofTankNow 12 = .ok (.iaload, 1) := by decide +kernel
theorem dX7_ofTankNow_13 : decode cX7_ofTankNow 13 = .ok (.goto 14, 3) := by decide +kernel
theorem dX7_ofTankNow_16 : decode cX7_ofTankNow 16 = .ok (.aload_n 0, 1) := by decide +kernel
theorem dX7_ofTankNow_17 : decode cX7_ofTankNow 17 = .ok (.getfield 21, 3) := by decide +kernel
theorem dX7_ofTankNow_20 : decode cX7_ofTankNow 20 = .ok (.iload_n 1, 1) := by decide +kernel
theorem dX7_ofTankNow_21 : decode cX7_ofTankNow 21 = .ok (.aaload, 1) := by decide +kernel
theorem dX7_ofTankNow_22 : decode cX7_ofTankNow 22 = .ok (.bipush 17, 2) := by decide +kernel
theorem dX7_ofTankNow_24 : decode cX7_ofTankNow 24 = .ok (.invokestatic 157, 3) := by decide +kernel
theorem dX7_ofTankNow_27 : decode cX7_ofTankNow 27 = .ok (.ireturn, 1) := by decide +kernel
theorem dX7_ofTank_0 : decode cX7_ofTank 0 = .ok (.aload_n 0, 1) := by decide +kernel
theorem dX7_ofTank_1 : decode cX7_ofTank 1 = .ok (.iconst 0, 1) := by decide +kernel
theorem dX7_ofTank_2 : decode cX7_ofTank 2 = .ok (.putfield 41, 3) := by decide +kernel
theorem dX7_ofTank_5 : decode cX7_ofTank 5 = .ok (.iload_n 1, 1) := by decide +kernel
theorem dX7_ofTank_6 : decode cX7_ofTank 6 = .ok (.invokestatic 128, 3) := by decide +kernel
theorem dX7_ofTank_9 : decode cX7_ofTank 9 = .ok (.ifCond .ne 9, 3) := by decide +kernel
theorem dX7_ofTank_12 : decode cX7_ofTank 12 = .ok (.aload_n 0, 1) := by decide +kernel
theorem dX7_ofTank_13 : decode cX7_ofTank 13 = .ok (.iconst 1, 1) := by decide +kernel
theorem dX7_ofTank_14 : decode cX7_ofTank 14 = .ok (.invokevirtual 56, 3) := by decide +kernel
theorem dX7_ofTank_17 : decode cX7_ofTank 17 = .ok (.ireturn, 1) := by decide +kernel
theorem dX7_ofTank_18 : decode cX7_ofTank 18 = .ok (.iload_n 2, 1) := by decide +kernel
theorem dX7_ofTank_19 : decode cX7_ofTank 19 = .ok (.iconst 0, 1) := by decide +kernel
theorem dX7_ofTank_20 : decode cX7_ofTank 20 = .ok (.iconst 4, 1) := by decide +kernel
theorem dX7_ofTank_21 : decode cX7_ofTank 21 = .ok (.invokestatic 48, 3) := by decide +kernel
theorem dX7_ofTank_24 : decode cX7_ofTank 24 = .ok (.ifCond .eq 12, 3) := by decide +kernel
theorem dX7_ofTank_27 : decode cX7_ofTank 27 = .ok (.aload_n 0, 1) := by decide +kernel
theorem dX7_ofTank_28 : decode cX7_ofTank 28 = .ok (.iload_n 1, 1) := by decide +kernel
theorem dX7_ofTank_29 : decode cX7_ofTank 29 = .ok (.iload_n 2, 1) := by decide +kernel
theorem dX7_ofTank_30 : decode cX7_ofTank 30 = .ok (.invokevirtual 220, 3) := by decide +kernel
theorem dX7_ofTank_33 : decode cX7_ofTank 33 = .ok (.goto 8, 3) := by decide +kernel
theorem dX7_ofTank_36 : decode cX7_ofTank 36 = .ok (.aload_n 0, 1) := by decide +kernel
theorem dX7_ofTank_37 : decode cX7_ofTank 37 = .ok (.iconst 2, 1) := by decide +kernel
theorem dX7_ofTank_38 : decode cX7_ofTank 38 = .ok (.invokevirtual 56, 3) := by decide +kernel
theorem dX7_ofTank_41 : decode cX7_ofTank 41 = .ok (.ireturn, 1) := by decide +kernel
theorem dX7_ofBedNow_0 : decode cX7_ofBedNow 0 = .ok (.aload_n 0, 1) := by decide +kernel
theorem dX7_ofBedNow_1 : decode cX7_ofBedNow 1 = .ok (.getfield 24, 3) := by decide +kernel
theorem dX7_ofBedNow_4 : decode cX7_ofBedNow 4 = .ok (.iload_n 1, 1) := by decide +kernel
theorem dX7_ofBedNow_5 : decode cX7_ofBedNow 5 = .ok (.invokevirtual 68, 3) := by decide +kernel
theorem dX7_ofBedNow_8 : decode cX7_ofBedNow 8 = .ok (.checkcast 72, 3) := by decide +kernel
theorem dX7_ofBedNow_11 : decode cX7_ofBedNow 11 = .ok (.astore_n 3, 1) := by decide +kernel
theorem dX7_ofBedNow_12 : decode cX7_ofBedNow 12 = .ok (.bipush 8, 2) := by decide +kernel
theorem dX7_ofBedNow_14 : decode cX7_ofBedNow 14 = .ok (.newarray .int, 2) := by decide +kernel
theorem dX7_ofBedNow_16 : decode cX7_ofBedNow 16 = .ok (.dup, 1) := by decide +kernel
theorem dX7_ofBedNow_17 : decode cX7_ofBedNow 17 = .ok (.iconst 0, 1) := by decide +kernel
theorem dX7_ofBedNow_18 : decode cX7_ofBedNow 18 = .ok (.aload_n 3, 1) := by decide +kernel
theorem dX7_ofBedNow_19 : decode cX7_ofBedNow 19 = .ok (.bipush 8, 2) := by decide +kernel
theorem dX7_ofBedNow_21 : decode cX7_ofBedNow 21 = .ok (.iaload, 1) := by decide +kernel
theorem dX7_ofBedNow_22 : decode cX7_ofBedNow 22 = .ok (.iastore, 1) := by decide +kernel
theorem dX7_ofBedNow_23 : decode cX7_ofBedNow 23 = .ok (.dup, 1) := by decide +kernel
theorem dX7_ofBedNow_24 : decode cX7_ofBedNow 24 = .ok (.iconst 1, 1) := by decide +kernel
theorem dX7_ofBedNow_25 : decode cX7_ofBedNow 25 = .ok (.aload_n 3, 1) := by decide +kernel
theorem dX7_ofBedNow_26 : decode cX7_ofBedNow 26 = .ok (.bipush 9, 2) := by decide +kernel
theorem dX7_ofBedNow_28 : decode cX7_ofBedNow 28 = .ok (.iaload, 1) := by decide +kernel
theorem dX7_ofBedNow_29 : decode cX7_ofBedNow 29 = .ok (.iastore, 1) := by decide +kernel
theorem dX7_ofBedNow_30 : decode cX7_ofBedNow 30 = .ok (.dup, 1) := by decide +kernel
theorem dX7_ofBedNow_31 : decode cX7_ofBedNow 31 = .ok (.iconst 2, 1) := by decide +kernel
theorem dX7_ofBedNow_32 : decode cX7_ofBedNow 32 = .ok (.aload_n 3, 1) := by decide +kernel
theorem dX7_ofBedNow_33 : decode cX7_ofBedNow 33 = .ok (.iconst 0, 1) := by decide +kernel
theorem dX7_ofBedNow_34 : decode cX7_ofBedNow 34 = .ok (.iaload, 1) := by decide +kernel
theorem dX7_ofBedNow_35 : decode cX7_ofBedNow 35 = .ok (.iastore, 1) := by decide +kernel
theorem dX7_ofBedNow_36 : decode cX7_ofBedNow 36 = .ok (.dup, 1) := by decide +kernel
theorem dX7_ofBedNow_37 : decode cX7_ofBedNow 37 = .ok (.iconst 3, 1) := by decide +kernel
theorem dX7_ofBedNow_38 : decode cX7_ofBedNow 38 = .ok (.aload_n 3, 1) := by decide +kernel
theorem dX7_ofBedNow_39 : decode cX7_ofBedNow 39 = .ok (.iconst 4, 1) := by decide +kernel
theorem dX7_ofBedNow_40 : decode cX7_ofBedNow 40 = .ok (.iaload, 1) := by decide +kernel
theorem dX7_ofBedNow_41 : decode cX7_ofBedNow 41 = .ok (.iastore, 1) := by decide +kernel
theorem dX7_ofBedNow_42 : decode cX7_ofBedNow 42 = .ok (.dup, 1) := by decide +kernel
theorem dX7_ofBedNow_43 : decode cX7_ofBedNow 43 = .ok (.iconst 4, 1) := by decide +kernel
theorem dX7_ofBedNow_44 : decode cX7_ofBedNow 44 = .ok (.aload_n 3, 1) := by decide +kernel
theorem dX7_ofBedNow_45 : decode cX7_ofBedNow 45 = .ok (.iconst 5, 1) := by decide +kernel
theorem dX7_ofBedNow_46 : decode cX7_ofBedNow 46 = .ok (.iaload, 1) := by decide +kernel
theorem dX7_ofBedNow_47 : decode cX7_ofBedNow 47 = .ok (.iastore, 1) := by decide +kernel
theorem dX7_ofBedNow_48 : decode cX7_ofBedNow 48 = .ok (.dup, 1) := by decide +kernel
theorem dX7_ofBedNow_49 : decode cX7_ofBedNow 49 = .ok (.iconst 5, 1) := by decide +kernel
theorem dX7_ofBedNow_50 : decode cX7_ofBedNow 50 = .ok (.aload_n 3, 1) := by decide +kernel
theorem dX7_ofBedNow_51 : decode cX7_ofBedNow 51 = .ok (.bipush 6, 2) := by decide +kernel
theorem dX7_ofBedNow_53 : decode cX7_ofBedNow 53 = .ok (.iaload, 1) := by decide +kernel
theorem dX7_ofBedNow_54 : decode cX7_ofBedNow 54 = .ok (.iastore, 1) := by decide +kernel
theorem dX7_ofBedNow_55 : decode cX7_ofBedNow 55 = .ok (.dup, 1) := by decide +kernel
theorem dX7_ofBedNow_56 : decode cX7_ofBedNow 56 = .ok (.bipush 6, 2) := by decide +kernel
theorem dX7_ofBedNow_58 : decode cX7_ofBedNow 58 = .ok (.aload_n 3, 1) := by decide +kernel
theorem dX7_ofBedNow_59 : decode cX7_ofBedNow 59 = .ok (.bipush 7, 2) := by decide +kernel
theorem dX7_ofBedNow_61 : decode cX7_ofBedNow 61 = .ok (.iaload, 1) := by decide +kernel
theorem dX7_ofBedNow_62 : decode cX7_ofBedNow 62 = .ok (.iastore, 1) := by decide +kernel
theorem dX7_ofBedNow_63 : decode cX7_ofBedNow 63 = .ok (.dup, 1) := by decide +kernel
theorem dX7_ofBedNow_64 : decode cX7_ofBedNow 64 = .ok (.bipush 7, 2) := by decide +kernel
theorem dX7_ofBedNow_66 : decode cX7_ofBedNow 66 = .ok (.aload_n 3, 1) := by decide +kernel
theorem dX7_ofBedNow_67 : decode cX7_ofBedNow 67 = .ok (.iconst 3, 1) := by decide +kernel
theorem dX7_ofBedNow_68 : decode cX7_ofBedNow 68 = .ok (.iaload, 1) := by decide +kernel
theorem dX7_ofBedNow_69 : decode cX7_ofBedNow 69 = .ok (.iastore, 1) := by decide +kernel
theorem dX7_ofBedNow_70 : decode cX7_ofBedNow 70 = .ok (.astore 4, 2) := by decide +kernel
theorem dX7_ofBedNow_72 : decode cX7_ofBedNow 72 = .ok (.aload 4, 2) := by decide +kernel
theorem dX7_ofBedNow_74 : decode cX7_ofBedNow 74 = .ok (.iload_n 2, 1) := by decide +kernel
theorem dX7_ofBedNow_75 : decode cX7_ofBedNow 75 = .ok (.iaload, 1) := by decide +kernel
theorem dX7_ofBedNow_76 : decode cX7_ofBedNow 76 = .ok (.ireturn, 1) := by decide +kernel
theorem dX7_ofBed_0 : decode cX7_ofBed 0 = .ok (.aload_n 0, 1) := by decide +kernel
theorem dX7_ofBed_1 : decode cX7_ofBed 1 = .ok (.iconst 0, 1) := by decide +kernel
theorem dX7_ofBed_2 : decode cX7_ofBed 2 = .ok (.putfield 41, 3) := by decide +kernel
theorem dX7_ofBed_5 : decode cX7_ofBed 5 = .ok (.aload_n 0, 1) := by decide +kernel
theorem dX7_ofBed_6 : decode cX7_ofBed 6 = .ok (.iload_n 1, 1) := by decide +kernel
theorem dX7_ofBed_7 : decode cX7_ofBed 7 = .ok (.invokevirtual 139, 3) := by decide +kernel
theorem dX7_ofBed_10 : decode cX7_ofBed 10 = .ok (.ifCond .ne 9, 3) := by decide +kernel
theorem dX7_ofBed_13 : decode cX7_ofBed 13 = .ok (.aload_n 0, 1) := by decide +kernel
theorem dX7_ofBed_14 : decode cX7_ofBed 14 = .ok (.iconst 1, 1) := by decide +kernel
theorem dX7_ofBed_15 : decode cX7_ofBed 15 = .ok (.invokevirtual 56, 3) := by decide +kernel
theorem dX7_ofBed_18 : decode cX7_ofBed 18 = .ok (.ireturn, 1) := by decide +kernel
theorem dX7_ofBed_19 : decode cX7_ofBed 19 = .ok (.iload_n 2, 1) := by decide +kernel
theorem dX7_ofBed_20 : decode cX7_ofBed 20 = .ok (.iconst 0, 1) := by decide +kernel
theorem dX7_ofBed_21 : decode cX7_ofBed 21 = .ok (.bipush 7, 2) := by decide +kernel
theorem dX7_ofBed_23 : decode cX7_ofBed 23 = .ok (.invokestatic 48, 3) := by decide +kernel
theorem dX7_ofBed_26 : decode cX7_ofBed 26 = .ok (.ifCond .eq 12, 3) := by decide +kernel
theorem dX7_ofBed_29 : decode cX7_ofBed 29 = .ok (.aload_n 0, 1) := by decide +kernel
theorem dX7_ofBed_30 : decode cX7_ofBed 30 = .ok (.iload_n 1, 1) := by decide +kernel
theorem dX7_ofBed_31 : decode cX7_ofBed 31 = .ok (.iload_n 2, 1) := by decide +kernel
theorem dX7_ofBed_32 : decode cX7_ofBed 32 = .ok (.invokevirtual 223, 3) := by decide +kernel
theorem dX7_ofBed_35 : decode cX7_ofBed 35 = .ok (.goto 8, 3) := by decide +kernel
theorem dX7_ofBed_38 : decode cX7_ofBed 38 = .ok (.aload_n 0, 1) := by decide +kernel
theorem dX7_ofBed_39 : decode cX7_ofBed 39 = .ok (.iconst 2, 1) := by decide +kernel
theorem dX7_ofBed_40 : decode cX7_ofBed 40 = .ok (.invokevirtual 56, 3) := by decide +kernel
theorem dX7_ofBed_43 : decode cX7_ofBed 43 = .ok (.ireturn, 1) := by decide +kernel
theorem dX7_ofLotNow_0 : decode cX7_ofLotNow 0 = .ok (.aload_n 0, 1) := by decide +kernel
theorem dX7_ofLotNow_1 : decode cX7_ofLotNow 1 = .ok (.getfield 27, 3) := by decide +kernel
theorem dX7_ofLotNow_4 : decode cX7_ofLotNow 4 = .ok (.iload_n 1, 1) := by decide +kernel
theorem dX7_ofLotNow_5 : decode cX7_ofLotNow 5 = .ok (.invokevirtual 68, 3) := by decide +kernel
theorem dX7_ofLotNow_8 : decode cX7_ofLotNow 8 = .ok (.checkcast 72, 3) := by decide +kernel
theorem dX7_ofLotNow_11 : decode cX7_ofLotNow 11 = .ok (.astore_n 3, 1) := by decide +kernel
theorem dX7_ofLotNow_12 : decode cX7_ofLotNow 12 = .ok (.bipush 12, 2) := by decide +kernel
theorem dX7_ofLotNow_14 : decode cX7_ofLotNow 14 = .ok (.newarray .int, 2) := by decide +kernel
theorem dX7_ofLotNow_16 : decode cX7_ofLotNow 16 = .ok (.dup, 1) := by decide +kernel
theorem dX7_ofLotNow_17 : decode cX7_ofLotNow 17 = .ok (.iconst 0, 1) := by decide +kernel
theorem dX7_ofLotNow_18 : decode cX7_ofLotNow 18 = .ok (.aload_n 3, 1) := by decide +kernel
theorem dX7_ofLotNow_19 : decode cX7_ofLotNow 19 = .ok (.iconst 0, 1) := by decide +kernel
theorem dX7_ofLotNow_20 : decode cX7_ofLotNow 20 = .ok (.iaload, 1) := by decide +kernel
theorem dX7_ofLotNow_21 : decode cX7_ofLotNow 21 = .ok (.iastore, 1) := by decide +kernel
theorem dX7_ofLotNow_22 : decode cX7_ofLotNow 22 = .ok (.dup, 1) := by decide +kernel
theorem dX7_ofLotNow_23 : decode cX7_ofLotNow 23 = .ok (.iconst 1, 1) := by decide +kernel
theorem dX7_ofLotNow_24 : decode cX7_ofLotNow 24 = .ok (.aload_n 3, 1) := by decide +kernel
theorem dX7_ofLotNow_25 : decode cX7_ofLotNow 25 = .ok (.iconst 4, 1) := by decide +kernel
theorem dX7_ofLotNow_26 : decode cX7_ofLotNow 26 = .ok (.iaload, 1) := by decide +kernel
theorem dX7_ofLotNow_27 : decode cX7_ofLotNow 27 = .ok (.iastore, 1) := by decide +kernel
theorem dX7_ofLotNow_28 : decode cX7_ofLotNow 28 = .ok (.dup, 1) := by decide +kernel
theorem dX7_ofLotNow_29 : decode cX7_ofLotNow 29 = .ok (.iconst 2, 1) := by decide +kernel
theorem dX7_ofLotNow_30 : decode cX7_ofLotNow 30 = .ok (.aload_n 3, 1) := by decide +kernel
theorem dX7_ofLotNow_31 : decode cX7_ofLotNow 31 = .ok (.bipush 10, 2) := by decide +kernel
theorem dX7_ofLotNow_33 : decode cX7_ofLotNow 33 = .ok (.iaload, 1) := by decide +kernel
theorem dX7_ofLotNow_34 : decode cX7_ofLotNow 34 = .ok (.iastore, 1) := by decide +kernel
theorem dX7_ofLotNow_35 : decode cX7_ofLotNow 35 = .ok (.dup, 1) := by decide +kernel
theorem dX7_ofLotNow_36 : decode cX7_ofLotNow 36 = .ok (.iconst 3, 1) := by decide +kernel
theorem dX7_ofLotNow_37 : decode cX7_ofLotNow 37 = .ok (.aload_n 3, 1) := by decide +kernel
theorem dX7_ofLotNow_38 : decode cX7_ofLotNow 38 = .ok (.bipush 17, 2) := by decide +kernel
theorem dX7_ofLotNow_40 : decode cX7_ofLotNow 40 = .ok (.invokestatic 157, 3) := by decide +kernel
theorem dX7_ofLotNow_43 : decode cX7_ofLotNow 43 = .ok (.iastore, 1) := by decide +kernel
theorem dX7_ofLotNow_44 : decode cX7_ofLotNow 44 = .ok (.dup, 1) := by decide +kernel
theorem dX7_ofLotNow_45 : decode cX7_ofLotNow 45 = .ok (.iconst 4, 1) := by decide +kernel
theorem dX7_ofLotNow_46 : decode cX7_ofLotNow 46 = .ok (.aload_n 3, 1) := by decide +kernel
theorem dX7_ofLotNow_47 : decode cX7_ofLotNow 47 = .ok (.iconst 1, 1) := by decide +kernel
theorem dX7_ofLotNow_48 : decode cX7_ofLotNow 48 = .ok (.iaload, 1) := by decide +kernel
theorem dX7_ofLotNow_49 : decode cX7_ofLotNow 49 = .ok (.iastore, 1) := by decide +kernel
theorem dX7_ofLotNow_50 : decode cX7_ofLotNow 50 = .ok (.dup, 1) := by decide +kernel
theorem dX7_ofLotNow_51 : decode cX7_ofLotNow 51 = .ok (.iconst 5, 1) := by decide +kernel
theorem dX7_ofLotNow_52 : decode cX7_ofLotNow 52 = .ok (.aload_n 3, 1) := by decide +kernel
theorem dX7_ofLotNow_53 : decode cX7_ofLotNow 53 = .ok (.iconst 3, 1) := by decide +kernel
theorem dX7_ofLotNow_54 : decode cX7_ofLotNow 54 = .ok (.iaload, 1) := by decide +kernel
theorem dX7_ofLotNow_55 : decode cX7_ofLotNow 55 = .ok (.iastore, 1) := by decide +kernel
theorem dX7_ofLotNow_56 : decode cX7_ofLotNow 56 = .ok (.dup, 1) := by decide +kernel
theorem dX7_ofLotNow_57 : decode cX7_ofLotNow 57 = .ok (.bipush 6, 2) := by decide +kernel
theorem dX7_ofLotNow_59 : decode cX7_ofLotNow 59 = .ok (.aload_n 3, 1) := by decide +kernel
theorem dX7_ofLotNow_60 : decode cX7_ofLotNow 60 = .ok (.bipush 7, 2) := by decide +kernel
theorem dX7_ofLotNow_62 : decode cX7_ofLotNow 62 = .ok (.iaload, 1) := by decide +kernel
theorem dX7_ofLotNow_63 : decode cX7_ofLotNow 63 = .ok (.iastore, 1) := by decide +kernel
theorem dX7_ofLotNow_64 : decode cX7_ofLotNow 64 = .ok (.dup, 1) := by decide +kernel
theorem dX7_ofLotNow_65 : decode cX7_ofLotNow 65 = .ok (.bipush 7, 2) := by decide +kernel
theorem dX7_ofLotNow_67 : decode cX7_ofLotNow 67 = .ok (.aload_n 3, 1) := by decide +kernel
theorem dX7_ofLotNow_68 : decode cX7_ofLotNow 68 = .ok (.iconst 5, 1) := by decide +kernel
theorem dX7_ofLotNow_69 : decode cX7_ofLotNow 69 = .ok (.iaload, 1) := by decide +kernel
theorem dX7_ofLotNow_70 : decode cX7_ofLotNow 70 = .ok (.iastore, 1) := by decide +kernel
theorem dX7_ofLotNow_71 : decode cX7_ofLotNow 71 = .ok (.dup, 1) := by decide +kernel
theorem dX7_ofLotNow_72 : decode cX7_ofLotNow 72 = .ok (.bipush 8, 2) := by decide +kernel
theorem dX7_ofLotNow_74 : decode cX7_ofLotNow 74 = .ok (.aload_n 3, 1) := by decide +kernel
theorem dX7_ofLotNow_75 : decode cX7_ofLotNow 75 = .ok (.iconst 2, 1) := by decide +kernel
theorem dX7_ofLotNow_76 : decode cX7_ofLotNow 76 = .ok (.iaload, 1) := by decide +kernel
theorem dX7_ofLotNow_77 : decode cX7_ofLotNow 77 = .ok (.iastore, 1) := by decide +kernel
theorem dX7_ofLotNow_78 : decode cX7_ofLotNow 78 = .ok (.dup, 1) := by decide +kernel
theorem dX7_ofLotNow_79 : decode cX7_ofLotNow 79 = .ok (.bipush 9, 2) := by decide +kernel
theorem dX7_ofLotNow_81 : decode cX7_ofLotNow 81 = .ok (.aload_n 0, 1) := by decide +kernel
theorem dX7_ofLotNow_82 : decode cX7_ofLotNow 82 = .ok (.iload_n 1, 1) := by decide +kernel
theorem dX7_ofLotNow_83 : decode cX7_ofLotNow 83 = .ok (.invokevirtual 196, 3) := by decide +kernel
theorem dX7_ofLotNow_86 : decode cX7_ofLotNow 86 = .ok (.iastore, 1) := by decide +kernel
theorem dX7_ofLotNow_87 : decode cX7_ofLotNow 87 = .ok (.dup, 1) := by decide +kernel
theorem dX7_ofLotNow_88 : decode cX7_ofLotNow 88 = .ok (.bipush 10, 2) := by decide +kernel
theorem dX7_ofLotNow_90 : decode cX7_ofLotNow 90 = .ok (.aload_n 0, 1) := by decide +kernel
theorem dX7_ofLotNow_91 : decode cX7_ofLotNow 91 = .ok (.aload_n 3, 1) := by decide +kernel
theorem dX7_ofLotNow_92 : decode cX7_ofLotNow 92 = .ok (.invokevirtual 177, 3) := by decide +kernel
theorem dX7_ofLotNow_95 : decode cX7_ofLotNow 95 = .ok (.iastore, 1) := by decide +kernel
theorem dX7_ofLotNow_96 : decode cX7_ofLotNow 96 = .ok (.dup, 1) := by decide +kernel
theorem dX7_ofLotNow_97 : decode cX7_ofLotNow 97 = .ok (.bipush 11, 2) := by decide +kernel
theorem dX7_ofLotNow_99 : decode cX7_ofLotNow 99 = .ok (.aload_n 3, 1) := by decide +kernel
theorem dX7_ofLotNow_100 : decode cX7_ofLotNow 100 = .ok (.invokestatic 226, 3) := by decide +kernel
theorem dX7_ofLotNow_103 : decode cX7_ofLotNow 103 = .ok (.iastore, 1) := by decide +kernel
theorem dX7_ofLotNow_104 : decode cX7_ofLotNow 104 = .ok (.astore 4, 2) := by decide +kernel
theorem dX7_ofLotNow_106 : decode cX7_ofLotNow 106 = .ok (.aload 4, 2) := by decide +kernel
theorem dX7_ofLotNow_108 : decode cX7_ofLotNow 108 = .ok (.iload_n 2, 1) := by decide +kernel
theorem dX7_ofLotNow_109 : decode cX7_ofLotNow 109 = .ok (.iaload, 1) := by decide +kernel
theorem dX7_ofLotNow_110 : decode cX7_ofLotNow 110 = .ok (.ireturn, 1) := by decide +kernel
theorem dX7_ofLot_0 : decode cX7_ofLot 0 = .ok (.aload_n 0, 1) := by decide +kernel
theorem dX7_ofLot_1 : decode cX7_ofLot 1 = .ok (.iconst 0, 1) := by decide +kernel
theorem dX7_ofLot_2 : decode cX7_ofLot 2 = .ok (.putfield 41, 3) := by decide +kernel
theorem dX7_ofLot_5 : decode cX7_ofLot 5 = .ok (.aload_n 0, 1) := by decide +kernel
theorem dX7_ofLot_6 : decode cX7_ofLot 6 = .ok (.iload_n 1, 1) := by decide +kernel
theorem dX7_ofLot_7 : decode cX7_ofLot 7 = .ok (.invokevirtual 170, 3) := by decide +kernel
theorem dX7_ofLot_10 : decode cX7_ofLot 10 = .ok (.ifCond .ne 9, 3) := by decide +kernel
theorem dX7_ofLot_13 : decode cX7_ofLot 13 = .ok (.aload_n 0, 1) := by decide +kernel
theorem dX7_ofLot_14 : decode cX7_ofLot 14 = .ok (.iconst 1, 1) := by decide +kernel
theorem dX7_ofLot_15 : decode cX7_ofLot 15 = .ok (.invokevirtual 56, 3) := by decide +kernel
theorem dX7_ofLot_18 : decode cX7_ofLot 18 = .ok (.ireturn, 1) := by decide +kernel
theorem dX7_ofLot_19 : decode cX7_ofLot 19 = .ok (.iload_n 2, 1) := by decide +kernel
theorem dX7_ofLot_20 : decode cX7_ofLot 20 = .ok (.iconst 0, 1) := by decide +kernel
theorem dX7_ofLot_21 : decode cX7_ofLot 21 = .ok (.bipush 11, 2) := by decide +kernel
theorem dX7_ofLot_23 : decode cX7_ofLot 23 = .ok (.invokestatic 48, 3) := by decide +kernel
theorem dX7_ofLot_26 : decode cX7_ofLot 26 = .ok (.ifCond .eq 12, 3) := by decide +kernel
theorem dX7_ofLot_29 : decode cX7_ofLot 29 = .ok (.aload_n 0, 1) := by decide +kernel
theorem dX7_ofLot_30 : decode cX7_ofLot 30 = .ok (.iload_n 1, 1) := by decide +kernel
theorem dX7_ofLot_31 : decode cX7_ofLot 31 = .ok (.iload_n 2, 1) := by decide +kernel
theorem dX7_ofLot_32 : decode cX7_ofLot 32 = .ok (.invokevirtual 229, 3) := by decide +kernel
theorem dX7_ofLot_35 : decode cX7_ofLot 35 = .ok (.goto 8, 3) := by decide +kernel
theorem dX7_ofLot_38 : decode cX7_ofLot 38 = .ok (.aload_n 0, 1) := by decide +kernel
theorem dX7_ofLot_39 : decode cX7_ofLot 39 = .ok (.iconst 2, 1) := by decide +kernel
theorem dX7_ofLot_40 : decode cX7_ofLot 40 = .ok (.invokevirtual 56, 3) := by decide +kernel
theorem dX7_ofLot_43 : decode cX7_ofLot 43 = .ok (.ireturn, 1) := by decide +kernel
theorem dX7_kilosOf_0 : decode cX7_kilosOf 0 = .ok (.aload_n 0, 1) := by decide +kernel
theorem dX7_kilosOf_1 : decode cX7_kilosOf 1 = .ok (.iconst 0, 1) := by decide +kernel
theorem dX7_kilosOf_2 : decode cX7_kilosOf 2 = .ok (.putfield 41, 3) := by decide +kernel
theorem dX7_kilosOf_5 : decode cX7_kilosOf 5 = .ok (.aload_n 0, 1) := by decide +kernel
theorem dX7_kilosOf_6 : decode cX7_kilosOf 6 = .ok (.iload_n 1, 1) := by decide +kernel
theorem dX7_kilosOf_7 : decode cX7_kilosOf 7 = .ok (.invokevirtual 170, 3) := by decide +kernel
theorem dX7_kilosOf_10 : decode cX7_kilosOf 10 = .ok (.ifCond .eq 30, 3) := by decide +kernel
theorem dX7_kilosOf_13 : decode cX7_kilosOf 13 = .ok (.aload_n 0, 1) := by decide +kernel
theorem dX7_kilosOf_14 : decode cX7_kilosOf 14 = .ok (.iload_n 2, 1) := by decide +kernel
theorem dX7_kilosOf_15 : decode cX7_kilosOf 15 = .ok (.invokevirtual 64, 3) := by decide +kernel
theorem dX7_kilosOf_18 : decode cX7_kilosOf 18 = .ok (.ifCond .eq 22, 3) := by decide +kernel
theorem dX7_kilosOf_21 : decode cX7_kilosOf 21 = .ok (.aload_n 0, 1) := by decide +kernel
theorem dX7_kilosOf_22 : decode cX7_kilosOf 22 = .ok (.getfield 27, 3) := by decide +kernel
theorem dX7_kilosOf_25 : decode cX7_kilosOf 25 = .ok (.iload_n 1, 1) := by decide +kernel
theorem dX7_kilosOf_26 : decode cX7_kilosOf 26 = .ok (.invokevirtual 68, 3) := by decide +kernel
theorem dX7_kilosOf_29 : decode cX7_kilosOf 29 = .ok (.checkcast 72, 3) := by decide +kernel
theorem dX7_kilosOf_32 : decode cX7_kilosOf 32 = .ok (.bipush 11, 2) := by decide +kernel
theorem dX7_kilosOf_34 : decode cX7_kilosOf 34 = .ok (.iload_n 2, 1) := by decide +kernel
theorem dX7_kilosOf_35 : decode cX7_kilosOf 35 = .ok (.iadd, 1) := by decide +kernel
theorem dX7_kilosOf_36 : decode cX7_kilosOf 36 = .ok (.iaload, 1) := by decide +kernel
theorem dX7_kilosOf_37 : decode cX7_kilosOf 37 = .ok (.goto 8, 3) := by decide +kernel
theorem dX7_kilosOf_40 : decode cX7_kilosOf 40 = .ok (.aload_n 0, 1) := by decide +kernel
theorem dX7_kilosOf_41 : decode cX7_kilosOf 41 = .ok (.iconst 1, 1) := by decide +kernel
theorem dX7_kilosOf_42 : decode cX7_kilosOf 42 = .ok (.invokevirtual 56, 3) := by decide +kernel
theorem dX7_kilosOf_45 : decode cX7_kilosOf 45 = .ok (.ireturn, 1) := by decide +kernel
theorem dX7_manyNow_0 : decode cX7_manyNow 0 = .ok (.iconst 0, 1) := by decide +kernel
theorem dX7_manyNow_1 : decode cX7_manyNow 1 = .ok (.istore_n 2, 1) := by decide +kernel
theorem dX7_manyNow_2 : decode cX7_manyNow 2 = .ok (.aload_n 0, 1) := by decide +kernel
theorem dX7_manyNow_3 : decode cX7_manyNow 3 = .ok (.getfield 16, 3) := by decide +kernel
theorem dX7_manyNow_6 : decode cX7_manyNow 6 = .ok (.invokevirtual 92, 3) := by decide +kernel
theorem dX7_manyNow_9 : decode cX7_manyNow 9 = .ok (.astore_n 3, 1) := by decide +kernel
theorem dX7_manyNow_10 : decode cX7_manyNow 10 = .ok (.aload_n 3, 1) := by decide +kernel
theorem dX7_manyNow_11 : decode cX7_manyNow 11 = .ok (.invokeinterface 96 1, 5) := by decide +kernel
theorem dX7_manyNow_16 : decode cX7_manyNow 16 = .ok (.ifCond .eq 35, 3) := by decide +kernel
theorem dX7_manyNow_19 : decode cX7_manyNow 19 = .ok (.aload_n 3, 1) := by decide +kernel
theorem dX7_manyNow_20 : decode cX7_manyNow 20 = .ok (.invokeinterface 102 1, 5) := by decide +kernel
theorem dX7_manyNow_25 : decode cX7_manyNow 25 = .ok (.checkcast 72, 3) := by decide +kernel
theorem dX7_manyNow_28 : decode cX7_manyNow 28 = .ok (.astore 4, 2) := by decide +kernel
theorem dX7_manyNow_30 : decode cX7_manyNow 30 = .ok (.iload_n 2, 1) := by decide +kernel
theorem dX7_manyNow_31 : decode cX7_manyNow 31 = .ok (.aload 4, 2) := by decide +kernel
theorem dX7_manyNow_33 : decode cX7_manyNow 33 = .ok (.iconst 3, 1) := by decide +kernel
theorem dX7_manyNow_34 : decode cX7_manyNow 34 = .ok (.iaload, 1) := by decide +kernel
theorem dX7_manyNow_35 : decode cX7_manyNow 35 = .ok (.ifCond .ne 10, 3) := by decide +kernel
theorem dX7_manyNow_38 : decode cX7_manyNow 38 = .ok (.aload 4, 2) := by decide +kernel
theorem dX7_manyNow_40 : decode cX7_manyNow 40 = .ok (.iconst 1, 1) := by decide +kernel
theorem dX7_manyNow_41 : decode cX7_manyNow 41 = .ok (.iaload, 1) := by decide +kernel
theorem dX7_manyNow_42 : decode cX7_manyNow 42 = .ok (.goto 4, 3) := by decide +kernel
theorem dX7_manyNow_45 : decode cX7_manyNow 45 = .ok (.iconst 0, 1) := by decide +kernel
theorem dX7_manyNow_46 : decode cX7_manyNow 46 = .ok (.iadd, 1) := by decide +kernel
theorem dX7_manyNow_47 : decode cX7_manyNow 47 = .ok (.istore_n 2, 1) := by decide +kernel
theorem dX7_manyNow_48 : decode cX7_manyNow 48 = .ok (.goto (-38), 3) := by decide +kernel
theorem dX7_manyNow_51 : decode cX7_manyNow 51 = .ok (.iconst 0, 1) := by decide +kernel
theorem dX7_manyNow_52 : decode cX7_manyNow 52 = .ok (.istore_n 3, 1) := by decide +kernel
theorem dX7_manyNow_53 : decode cX7_manyNow 53 = .ok (.aload_n 0, 1) := by decide +kernel
theorem dX7_manyNow_54 : decode cX7_manyNow 54 = .ok (.getfield 21, 3) := by decide +kernel
theorem dX7_manyNow_57 : decode cX7_manyNow 57 = .ok (.astore 4, 2) := by decide +kernel
theorem dX7_manyNow_59 : decode cX7_manyNow 59 = .ok (.aload 4, 2) := by decide +kernel
theorem dX7_manyNow_61 : decode cX7_manyNow 61 = .ok (.arraylength, 1) := by decide +kernel
theorem dX7_manyNow_62 : decode cX7_manyNow 62 = .ok (.istore 5, 2) := by decide +kernel
theorem dX7_manyNow_64 : decode cX7_manyNow 64 = .ok (.iconst 0, 1) := by decide +kernel
theorem dX7_manyNow_65 : decode cX7_manyNow 65 = .ok (.istore 6, 2) := by decide +kernel
theorem dX7_manyNow_67 : decode cX7_manyNow 67 = .ok (.iload 6, 2) := by decide +kernel
theorem dX7_manyNow_69 : decode cX7_manyNow 69 = .ok (.iload 5, 2) := by decide +kernel
theorem dX7_manyNow_71 : decode cX7_manyNow 71 = .ok (.if_icmp .ge 23, 3) := by decide +kernel
theorem dX7_manyNow_74 : decode cX7_manyNow 74 = .ok (.aload 4, 2) := by decide +kernel
theorem dX7_manyNow_76 : decode cX7_manyNow 76 = .ok (.iload 6, 2) := by decide +kernel
theorem dX7_manyNow_78 : decode cX7_manyNow 78 = .ok (.aaload, 1) := by decide +kernel
theorem dX7_manyNow_79 : decode cX7_manyNow 79 = .ok (.astore 7, 2) := by decide +kernel
theorem dX7_manyNow_81 : decode cX7_manyNow 81 = .ok (.iload_n 3, 1) := by decide +kernel
theorem dX7_manyNow_82 : decode cX7_manyNow 82 = .ok (.aload 7, 2) := by decide +kernel
theorem dX7_manyNow_84 : decode cX7_manyNow 84 = .ok (.iconst 0, 1) := by decide +kernel
theorem dX7_manyNow_85 : decode cX7_manyNow 85 = .ok (.iaload, 1) := by decide +kernel
theorem dX7_manyNow_86 : decode cX7_manyNow 86 = .ok (.iadd, 1) := by decide +kernel
theorem dX7_manyNow_87 : decode cX7_manyNow 87 = .ok (.istore_n 3, 1) := by decide +kernel
theorem dX7_manyNow_88 : decode cX7_manyNow 88 = .ok (.iinc 6 1, 3) := by decide +kernel
theorem dX7_manyNow_91 : decode cX7_manyNow 91 = .ok (.goto (-24), 3) := by decide +kernel
theorem dX7_manyNow_94 : decode cX7_manyNow 94 = .ok (.iconst 0, 1) := by decide +kernel
theorem dX7_manyNow_95 : decode cX7_manyNow 95 = .ok (.istore 4, 2) := by decide +kernel
theorem dX7_manyNow_97 : decode cX7_manyNow 97 = .ok (.aload_n 0, 1) := by decide +kernel
theorem dX7_manyNow_98 : decode cX7_manyNow 98 = .ok (.getfield 24, 3) := by decide +kernel
theorem dX7_manyNow_101 : decode cX7_manyNow 101 = .ok (.invokevirtual 92, 3) := by decide +kernel
theorem dX7_manyNow_104 : decode cX7_manyNow 104 = .ok (.astore 5, 2) := by decide +kernel
theorem dX7_manyNow_106 : decode cX7_manyNow 106 = .ok (.aload 5, 2) := by decide +kernel
theorem dX7_manyNow_108 : decode cX7_manyNow 108 = .ok (.invokeinterface 96 1, 5) := by decide +kernel
theorem dX7_manyNow_113 : decode cX7_manyNow 113 = .ok (.ifCond .eq 27, 3) := by decide +kernel
theorem dX7_manyNow_116 : decode cX7_manyNow 116 = .ok (.aload 5, 2) := by decide +kernel
theorem dX7_manyNow_118 : decode cX7_manyNow 118 = .ok (.invokeinterface 102 1, 5) := by decide +kernel
theorem dX7_manyNow_123 : decode cX7_manyNow 123 = .ok (.checkcast 72, 3) := by decide +kernel
theorem dX7_manyNow_126 : decode cX7_manyNow 126 = .ok (.astore 6, 2) := by decide +kernel
theorem dX7_manyNow_128 : decode cX7_manyNow 128 = .ok (.iload 4, 2) := by decide +kernel
theorem dX7_manyNow_130 : decode cX7_manyNow 130 = .ok (.aload 6, 2) := by decide +kernel
theorem dX7_manyNow_132 : decode cX7_manyNow 132 = .ok (.iconst 0, 1) := by decide +kernel
theorem dX7_manyNow_133 : decode cX7_manyNow 133 = .ok (.iaload, 1) := by decide +kernel
theorem dX7_manyNow_134 : decode cX7_manyNow 134 = .ok (.iadd, 1) := by decide +kernel
theorem dX7_manyNow_135 : decode cX7_manyNow 135 = .ok (.istore 4, 2) := by decide +kernel
theorem dX7_manyNow_137 : decode cX7_manyNow 137 = .ok (.goto (-31), 3) := by decide +kernel
theorem dX7_manyNow_140 : decode cX7_manyNow 140 = .ok (.iconst 0, 1) := by decide +kernel
theorem dX7_manyNow_141 : decode cX7_manyNow 141 = .ok (.istore 5, 2) := by decide +kernel
theorem dX7_manyNow_143 : decode cX7_manyNow 143 = .ok (.iconst 0, 1) := by decide +kernel
theorem dX7_manyNow_144 : decode cX7_manyNow 144 = .ok (.istore 6, 2) := by decide +kernel
theorem dX7_manyNow_146 : decode cX7_manyNow 146 = .ok (.aload_n 0, 1) := by decide +kernel
theorem dX7_manyNow_147 : decode cX7_manyNow 147 = .ok (.getfield 27, 3) := by decide +kernel
theorem dX7_manyNow_150 : decode cX7_manyNow 150 = .ok (.invokevirtual 92, 3) := by decide +kernel
theorem dX7_manyNow_153 : decode cX7_manyNow 153 = .ok (.astore 7, 2) := by decide +kernel
theorem dX7_manyNow_155 : decode cX7_manyNow 155 = .ok (.aload 7, 2) := by decide +kernel
theorem dX7_manyNow_157 : decode cX7_manyNow 157 = .ok (.invokeinterface 96 1, 5) := by decide +kernel
theorem dX7_manyNow_162 : decode cX7_manyNow 162 = .ok (.ifCond .eq 49, 3) := by decide +kernel
theorem dX7_manyNow_165 : decode cX7_manyNow 165 = .ok (.aload 7, 2) := by decide +kernel
theorem dX7_manyNow_167 : decode cX7_manyNow 167 = .ok (.invokeinterface 102 1, 5) := by decide +kernel
theorem dX7_manyNow_172 : decode cX7_manyNow 172 = .ok (.checkcast 72, 3) := by decide +kernel
theorem dX7_manyNow_175 : decode cX7_manyNow 175 = .ok (.astore 8, 2) := by decide +kernel
theorem dX7_manyNow_177 : decode cX7_manyNow 177 = .ok (.iload 5, 2) := by decide +kernel
theorem dX7_manyNow_179 : decode cX7_manyNow 179 = .ok (.aload 8, 2) := by decide +kernel
theorem dX7_manyNow_181 : decode cX7_manyNow 181 = .ok (.bipush 10, 2) := by decide +kernel
theorem dX7_manyNow_183 : decode cX7_manyNow 183 = .ok (.iaload, 1) := by decide +kernel
theorem dX7_manyNow_184 : decode cX7_manyNow 184 = .ok (.iadd, 1) := by decide +kernel
theorem dX7_manyNow_185 : decode cX7_manyNow 185 = .ok (.istore 5, 2) := by decide +kernel
theorem dX7_manyNow_187 : decode cX7_manyNow 187 = .ok (.iload 6, 2) := by decide +kernel
theorem dX7_manyNow_189 : decode cX7_manyNow 189 = .ok (.aload 8, 2) := by decide +kernel
theorem dX7_manyNow_191 : decode cX7_manyNow 191 = .ok (.invokestatic 173, 3) := by decide +kernel
theorem dX7_manyNow_194 : decode cX7_manyNow 194 = .ok (.ifCond .eq 10, 3) := by decide +kernel
theorem dX7_manyNow_197 : decode cX7_manyNow 197 = .ok (.aload 8, 2) := by decide +kernel
theorem dX7_manyNow_199 : decode cX7_manyNow 199 = .ok (.iconst 0, 1) := by decide +kernel
theorem dX7_manyNow_200 : decode cX7_manyNow 200 = .ok (.iaload, 1) := by decide +kernel
theorem dX7_manyNow_201 : decode cX7_manyNow 201 = .ok (.goto 4, 3) := by decide +kernel
theorem dX7_manyNow_204 : decode cX7_manyNow 204 = .ok (.iconst 0, 1) := by decide +kernel
theorem dX7_manyNow_205 : decode cX7_manyNow 205 = .ok (.iadd, 1) := by decide +kernel
theorem dX7_manyNow_206 : decode cX7_manyNow 206 = .ok (.istore 6, 2) := by decide +kernel
theorem dX7_manyNow_208 : decode cX7_manyNow 208 = .ok (.goto (-53), 3) := by decide +kernel
theorem dX7_manyNow_211 : decode cX7_manyNow 211 = .ok (.iconst 0, 1) := by decide +kernel
theorem dX7_manyNow_212 : decode cX7_manyNow 212 = .ok (.istore 7, 2) := by decide +kernel
theorem dX7_manyNow_214 : decode cX7_manyNow 214 = .ok (.aload_n 0, 1) := by decide +kernel
theorem dX7_manyNow_215 : decode cX7_manyNow 215 = .ok (.getfield 12, 3) := by decide +kernel
theorem dX7_manyNow_218 : decode cX7_manyNow 218 = .ok (.invokevirtual 92, 3) := by decide +kernel
theorem dX7_manyNow_221 : decode cX7_manyNow 221 = .ok (.astore 8, 2) := by decide +kernel
theorem dX7_manyNow_223 : decode cX7_manyNow 223 = .ok (.aload 8, 2) := by decide +kernel
theorem dX7_manyNow_225 : decode cX7_manyNow 225 = .ok (.invokeinterface 96 1, 5) := by decide +kernel
theorem dX7_manyNow_230 : decode cX7_manyNow 230 = .ok (.ifCond .eq 27, 3) := by decide +kernel
theorem dX7_manyNow_233 : decode cX7_manyNow 233 = .ok (.aload 8, 2) := by decide +kernel
theorem dX7_manyNow_235 : decode cX7_manyNow 235 = .ok (.invokeinterface 102 1, 5) := by decide +kernel
theorem dX7_manyNow_240 : decode cX7_manyNow 240 = .ok (.checkcast 72, 3) := by decide +kernel
theorem dX7_manyNow_243 : decode cX7_manyNow 243 = .ok (.astore 9, 2) := by decide +kernel
theorem dX7_manyNow_245 : decode cX7_manyNow 245 = .ok (.iload 7, 2) := by decide +kernel
theorem dX7_manyNow_247 : decode cX7_manyNow 247 = .ok (.aload 9, 2) := by decide +kernel
theorem dX7_manyNow_249 : decode cX7_manyNow 249 = .ok (.iconst 2, 1) := by decide +kernel
theorem dX7_manyNow_250 : decode cX7_manyNow 250 = .ok (.iaload, 1) := by decide +kernel
theorem dX7_manyNow_251 : decode cX7_manyNow 251 = .ok (.iadd, 1) := by decide +kernel
theorem dX7_manyNow_252 : decode cX7_manyNow 252 = .ok (.istore 7, 2) := by decide +kernel
theorem dX7_manyNow_254 : decode cX7_manyNow 254 = .ok (.goto (-31), 3) := by decide +kernel
theorem dX7_manyNow_257 : decode cX7_manyNow 257 = .ok (.bipush 16, 2) := by decide +kernel
theorem dX7_manyNow_259 : decode cX7_manyNow 259 = .ok (.newarray .int, 2) := by decide +kernel
theorem dX7_manyNow_261 : decode cX7_manyNow 261 = .ok (.dup, 1) := by decide +kernel
theorem dX7_manyNow_262 : decode cX7_manyNow 262 = .ok (.iconst 0, 1) := by decide +kernel
theorem dX7_manyNow_263 : decode cX7_manyNow 263 = .ok (.aload_n 0, 1) := by decide +kernel
theorem dX7_manyNow_264 : decode cX7_manyNow 264 = .ok (.getfield 73, 3) := by decide +kernel
theorem dX7_manyNow_267 : decode cX7_manyNow 267 = .ok (.iastore, 1) := by decide +kernel
theorem dX7_manyNow_268 : decode cX7_manyNow 268 = .ok (.dup, 1) := by decide +kernel
theorem dX7_manyNow_269 : decode cX7_manyNow 269 = .ok (.iconst 1, 1) := by decide +kernel
theorem dX7_manyNow_270 : decode cX7_manyNow 270 = .ok (.aload_n 0, 1) := by decide +kernel
theorem dX7_manyNow_271 : decode cX7_manyNow 271 = .ok (.getfield 12, 3) := by decide +kernel
theorem dX7_manyNow_274 : decode cX7_manyNow 274 = .ok (.invokevirtual 44, 3) := by decide +kernel
theorem dX7_manyNow_277 : decode cX7_manyNow 277 = .ok (.iastore, 1) := by decide +kernel
theorem dX7_manyNow_278 : decode cX7_manyNow 278 = .ok (.dup, 1) := by decide +kernel
theorem dX7_manyNow_279 : decode cX7_manyNow 279 = .ok (.iconst 2, 1) := by decide +kernel
theorem dX7_manyNow_280 : decode cX7_manyNow 280 = .ok (.aload_n 0, 1) := by decide +kernel
theorem dX7_manyNow_281 : decode cX7_manyNow 281 = .ok (.getfield 16, 3) := by decide +kernel
theorem dX7_manyNow_284 : decode cX7_manyNow 284 = .ok (.invokevirtual 44, 3) := by decide +kernel
theorem dX7_manyNow_287 : decode cX7_manyNow 287 = .ok (.iastore, 1) := by decide +kernel
theorem dX7_manyNow_288 : decode cX7_manyNow 288 = .ok (.dup, 1) := by decide +kernel
theorem dX7_manyNow_289 : decode cX7_manyNow 289 = .ok (.iconst 3, 1) := by decide +kernel
theorem dX7_manyNow_290 : decode cX7_manyNow 290 = .ok (.aload_n 0, 1) := by decide +kernel
theorem dX7_manyNow_291 : decode cX7_manyNow 291 = .ok (.getfield 24, 3) := by decide +kernel
theorem dX7_manyNow_294 : decode cX7_manyNow 294 = .ok (.invokevirtual 44, 3) := by decide +kernel
theorem dX7_manyNow_297 : decode cX7_manyNow 297 = .ok (.iastore, 1) := by decide +kernel
theorem dX7_manyNow_298 : decode cX7_manyNow 298 = .ok (.dup, 1) := by decide +kernel
theorem dX7_manyNow_299 : decode cX7_manyNow 299 = .ok (.iconst 4, 1) := by decide +kernel
theorem dX7_manyNow_300 : decode cX7_manyNow 300 = .ok (.aload_n 0, 1) := by decide +kernel
theorem dX7_manyNow_301 : decode cX7_manyNow 301 = .ok (.getfield 27, 3) := by decide +kernel
theorem dX7_manyNow_304 : decode cX7_manyNow 304 = .ok (.invokevirtual 44, 3) := by decide +kernel
theorem dX7_manyNow_307 : decode cX7_manyNow 307 = .ok (.iastore, 1) := by decide +kernel
theorem dX7_manyNow_308 : decode cX7_manyNow 308 = .ok (.dup, 1) := by decide +kernel
theorem dX7_manyNow_309 : decode cX7_manyNow 309 = .ok (.iconst 5, 1) := by decide +kernel
theorem dX7_manyNow_310 : decode cX7_manyNow 310 = .ok (.iload 5, 2) := by decide +kernel
theorem dX7_manyNow_312 : decode cX7_manyNow 312 = .ok (.iastore, 1) := by decide +kernel
theorem dX7_manyNow_313 : decode cX7_manyNow 313 = .ok (.dup, 1) := by decide +kernel
theorem dX7_manyNow_314 : decode cX7_manyNow 314 = .ok (.bipush 6, 2) := by decide +kernel
theorem dX7_manyNow_316 : decode cX7_manyNow 316 = .ok (.aload_n 0, 1) := by decide +kernel
theorem dX7_manyNow_317 : decode cX7_manyNow 317 = .ok (.getfield 79, 3) := by decide +kernel
theorem dX7_manyNow_320 : decode cX7_manyNow 320 = .ok (.iastore, 1) := by decide +kernel
theorem dX7_manyNow_321 : decode cX7_manyNow 321 = .ok (.dup, 1) := by decide +kernel
theorem dX7_manyNow_322 : decode cX7_manyNow 322 = .ok (.bipush 7, 2) := by decide +kernel
theorem dX7_manyNow_324 : decode cX7_manyNow 324 = .ok (.aload_n 0, 1) := by decide +kernel
theorem dX7_manyNow_325 : decode cX7_manyNow 325 = .ok (.getfield 76, 3) := by decide +kernel
theorem dX7_manyNow_328 : decode cX7_manyNow 328 = .ok (.iastore, 1) := by decide +kernel
theorem dX7_manyNow_329 : decode cX7_manyNow 329 = .ok (.dup, 1) := by decide +kernel
theorem dX7_manyNow_330 : decode cX7_manyNow 330 = .ok (.bipush 8, 2) := by decide +kernel
theorem dX7_manyNow_332 : decode cX7_manyNow 332 = .ok (.iload_n 2, 1) := by decide +kernel
theorem dX7_manyNow_333 : decode cX7_manyNow 333 = .ok (.iastore, 1) := by decide +kernel
theorem dX7_manyNow_334 : decode cX7_manyNow 334 = .ok (.dup, 1) := by decide +kernel
theorem dX7_manyNow_335 : decode cX7_manyNow 335 = .ok (.bipush 9, 2) := by decide +kernel
theorem dX7_manyNow_337 : decode cX7_manyNow 337 = .ok (.iload_n 3, 1) := by decide +kernel
theorem dX7_manyNow_338 : decode cX7_manyNow 338 = .ok (.iastore, 1) := by decide +kernel
theorem dX7_manyNow_339 : decode cX7_manyNow 339 = .ok (.dup, 1) := by decide +kernel
theorem dX7_manyNow_340 : decode cX7_manyNow 340 = .ok (.bipush 10, 2) := by decide +kernel
theorem dX7_manyNow_342 : decode cX7_manyNow 342 = .ok (.iload 4, 2) := by decide +kernel
theorem dX7_manyNow_344 : decode cX7_manyNow 344 = .ok (.iastore, 1) := by decide +kernel
theorem dX7_manyNow_345 : decode cX7_manyNow 345 = .ok (.dup, 1) := by decide +kernel
theorem dX7_manyNow_346 : decode cX7_manyNow 346 = .ok (.bipush 11, 2) := by decide +kernel
theorem dX7_manyNow_348 : decode cX7_manyNow 348 = .ok (.iload 6, 2) := by decide +kernel
theorem dX7_manyNow_350 : decode cX7_manyNow 350 = .ok (.iastore, 1) := by decide +kernel
theorem dX7_manyNow_351 : decode cX7_manyNow 351 = .ok (.dup, 1) := by decide +kernel
theorem dX7_manyNow_352 : decode cX7_manyNow 352 = .ok (.bipush 12, 2) := by decide +kernel
theorem dX7_manyNow_354 : decode cX7_manyNow 354 = .ok (.aload_n 0, 1) := by decide +kernel
theorem dX7_manyNow_355 : decode cX7_manyNow 355 = .ok (.getfield 214, 3) := by decide +kernel
theorem dX7_manyNow_358 : decode cX7_manyNow 358 = .ok (.iastore, 1) := by decide +kernel
theorem dX7_manyNow_359 : decode cX7_manyNow 359 = .ok (.dup, 1) := by decide +kernel
theorem dX7_manyNow_360 : decode cX7_manyNow 360 = .ok (.bipush 13, 2) := by decide +kernel
theorem dX7_manyNow_362 : decode cX7_manyNow 362 = .ok (.aload_n 0, 1) := by decide +kernel
theorem dX7_manyNow_363 : decode cX7_manyNow 363 = .ok (.getfield 106, 3) := by decide +kernel
theorem dX7_manyNow_366 : decode cX7_manyNow 366 = .ok (.iastore, 1) := by decide +kernel
theorem dX7_manyNow_367 : decode cX7_manyNow 367 = .ok (.dup, 1) := by decide +kernel
theorem dX7_manyNow_368 : decode cX7_manyNow 368 = .ok (.bipush 14, 2) := by decide +kernel
theorem dX7_manyNow_370 : decode cX7_manyNow 370 = .ok (.aload_n 0, 1) := by decide +kernel
theorem dX7_manyNow_371 : decode cX7_manyNow 371 = .ok (.getfield 150, 3) := by decide +kernel
theorem dX7_manyNow_374 : decode cX7_manyNow 374 = .ok (.iastore, 1) := by decide +kernel
theorem dX7_manyNow_375 : decode cX7_manyNow 375 = .ok (.dup, 1) := by decide +kernel
theorem dX7_manyNow_376 : decode cX7_manyNow 376 = .ok (.bipush 15, 2) := by decide +kernel
theorem dX7_manyNow_378 : decode cX7_manyNow 378 = .ok (.iload 7, 2) := by decide +kernel
theorem dX7_manyNow_380 : decode cX7_manyNow 380 = .ok (.iastore, 1) := by decide +kernel
theorem dX7_manyNow_381 : decode cX7_manyNow 381 = .ok (.astore 8, 2) := by decide +kernel
theorem dX7_manyNow_383 : decode cX7_manyNow 383 = .ok (.aload 8, 2) := by decide +kernel
theorem dX7_manyNow_385 : decode cX7_manyNow 385 = .ok (.iload_n 1, 1) := by decide +kernel
theorem dX7_manyNow_386 : decode cX7_manyNow 386 = .ok (.iaload, 1) := by decide +kernel
theorem dX7_manyNow_387 : decode cX7_manyNow 387 = .ok (.ireturn, 1) := by decide +kernel
theorem dX7_many_0 : decode cX7_many 0 = .ok (.aload_n 0, 1) := by decide +kernel
theorem dX7_many_1 : decode cX7_many 1 = .ok (.iconst 0, 1) := by decide +kernel
theorem dX7_many_2 : decode cX7_many 2 = .ok (.putfield 41, 3) := by decide +kernel
theorem dX7_many_5 : decode cX7_many 5 = .ok (.iload_n 1, 1) := by decide +kernel
theorem dX7_many_6 : decode cX7_many 6 = .ok (.iconst 0, 1) := by decide +kernel
theorem dX7_many_7 : decode cX7_many 7 = .ok (.bipush 15, 2) := by decide +kernel
theorem dX7_many_9 : decode cX7_many 9 = .ok (.invokestatic 48, 3) := by decide +kernel
theorem dX7_many_12 : decode cX7_many 12 = .ok (.ifCond .eq 11, 3) := by decide +kernel
theorem dX7_many_15 : decode cX7_many 15 = .ok (.aload_n 0, 1) := by decide +kernel
theorem dX7_many_16 : decode cX7_many 16 = .ok (.iload_n 1, 1) := by decide +kernel
theorem dX7_many_17 : decode cX7_many 17 = .ok (.invokevirtual 232, 3) := by decide +kernel
theorem dX7_many_20 : decode cX7_many 20 = .ok (.goto 8, 3) := by decide +kernel
theorem dX7_many_23 : decode cX7_many 23 = .ok (.aload_n 0, 1) := by decide +kernel
theorem dX7_many_24 : decode cX7_many 24 = .ok (.iconst 1, 1) := by decide +kernel
theorem dX7_many_25 : decode cX7_many 25 = .ok (.invokevirtual 56, 3) := by decide +kernel
theorem dX7_many_28 : decode cX7_many 28 = .ok (.ireturn, 1) := by decide +kernel
theorem dX7_meanScore_0 : decode cX7_meanScore 0 = .ok (.aload_n 0, 1) := by decide +kernel
theorem dX7_meanScore_1 : decode cX7_meanScore 1 = .ok (.iconst 0, 1) := by decide +kernel
theorem dX7_meanScore_2 : decode cX7_meanScore 2 = .ok (.putfield 41, 3) := by decide +kernel
theorem dX7_meanScore_5 : decode cX7_meanScore 5 = .ok (.lconst 0, 1) := by decide +kernel
theorem dX7_meanScore_6 : decode cX7_meanScore 6 = .ok (.lstore_n 1, 1) := by decide +kernel
theorem dX7_meanScore_7 : decode cX7_meanScore 7 = .ok (.aload_n 0, 1) := by decide +kernel
theorem dX7_meanScore_8 : decode cX7_meanScore 8 = .ok (.getfield 27, 3) := by decide +kernel
theorem dX7_meanScore_11 : decode cX7_meanScore 11 = .ok (.invokevirtual 92, 3) := by decide +kernel
theorem dX7_meanScore_14 : decode cX7_meanScore 14 = .ok (.astore_n 3, 1) := by decide +kernel
theorem dX7_meanScore_15 : decode cX7_meanScore 15 = .ok (.aload_n 3, 1) := by decide +kernel
theorem dX7_meanScore_16 : decode cX7_meanScore 16 = .ok (.invokeinterface 96 1, 5) := by decide +kernel
theorem dX7_meanScore_21 : decode cX7_meanScore 21 = .ok (.ifCond .eq 45, 3) := by decide +kernel
theorem dX7_meanScore_24 : decode cX7_meanScore 24 = .ok (.aload_n 3, 1) := by decide +kernel
theorem dX7_meanScore_25 : decode cX7_meanScore 25 = .ok (.invokeinterface 102 1, 5) := by decide +kernel
theorem dX7_meanScore_30 : decode cX7_meanScore 30 = .ok (.checkcast 72, 3) := by decide +kernel
theorem dX7_meanScore_33 : decode cX7_meanScore 33 = .ok (.astore 4, 2) := by decide +kernel
theorem dX7_meanScore_35 : decode cX7_meanScore 35 = .ok (.lload_n 1, 1) := by decide +kernel
theorem dX7_meanScore_36 : decode cX7_meanScore 36 = .ok (.aload 4, 2) := by decide +kernel
theorem dX7_meanScore_38 : decode cX7_meanScore 38 = .ok (.invokestatic 173, 3) := by decide +kernel
theorem dX7_meanScore_41 : decode cX7_meanScore 41 = .ok (.ifCond .eq 19, 3) := by decide +kernel
theorem dX7_meanScore_44 : decode cX7_meanScore 44 = .ok (.aload 4, 2) := by decide +kernel
theorem dX7_meanScore_46 : decode cX7_meanScore 46 = .ok (.iconst 0, 1) := by decide +kernel
theorem dX7_meanScore_47 : decode cX7_meanScore 47 = .ok (.iaload, 1) := by decide +kernel
theorem dX7_meanScore_48 : decode cX7_meanScore 48 = .ok (.i2l, 1) := by decide +kernel
theorem dX7_meanScore_49 : decode cX7_meanScore 49 = .ok (.aload_n 0, 1) := by decide +kernel
theorem dX7_meanScore_50 : decode cX7_meanScore 50 = .ok (.aload 4, 2) := by decide +kernel
theorem dX7_meanScore_52 : decode cX7_meanScore 52 = .ok (.invokevirtual 177, 3) := by decide +kernel
theorem dX7_meanScore_55 : decode cX7_meanScore 55 = .ok (.i2l, 1) := by decide +kernel
theorem dX7_meanScore_56 : decode cX7_meanScore 56 = .ok (.lmul, 1) := by decide +kernel
theorem dX7_meanScore_57 : decode cX7_meanScore 57 = .ok (.goto 4, 3) := by decide +kernel
theorem dX7_meanScore_60 : decode cX7_meanScore 60 = .ok (.lconst 0, 1) := by decide +kernel
theorem dX7_meanScore_61 : decode cX7_meanScore 61 = .ok (.ladd, 1) := by decide +kernel
theorem dX7_meanScore_62 : decode cX7_meanScore 62 = .ok (.lstore_n 1, 1) := by decide +kernel
theorem dX7_meanScore_63 : decode cX7_meanScore 63 = .ok (.goto (-48), 3) := by decide +kernel
theorem dX7_meanScore_66 : decode cX7_meanScore 66 = .ok (.aload_n 0, 1) := by decide +kernel
theorem dX7_meanScore_67 : decode cX7_meanScore 67 = .ok (.bipush 11, 2) := by decide +kernel
theorem dX7_meanScore_69 : decode cX7_meanScore 69 = .ok (.invokevirtual 232, 3) := by decide +kernel
theorem dX7_meanScore_72 : decode cX7_meanScore 72 = .ok (.ifCond .ne 7, 3) := by decide +kernel
theorem dX7_meanScore_75 : decode cX7_meanScore 75 = .ok (.dconst 0, 1) := by decide +kernel
theorem dX7_meanScore_76 : decode cX7_meanScore 76 = .ok (.goto 13, 3) := by decide +kernel
theorem dX7_meanScore_79 : decode cX7_meanScore 79 = .ok (.lload_n 1, 1) := by decide +kernel
theorem dX7_meanScore_80 : decode cX7_meanScore 80 = .ok (.l2d, 1) := by decide +kernel
theorem dX7_meanScore_81 : decode cX7_meanScore 81 = .ok (.aload_n 0, 1) := by decide +kernel
theorem dX7_meanScore_82 : decode cX7_meanScore 82 = .ok (.bipush 11, 2) := by decide +kernel
theorem dX7_meanScore_84 : decode cX7_meanScore 84 = .ok (.invokevirtual 232, 3) := by decide +kernel
theorem dX7_meanScore_87 : decode cX7_meanScore 87 = .ok (.i2d, 1) := by decide +kernel
theorem dX7_meanScore_88 : decode cX7_meanScore 88 = .ok (.ddiv, 1) := by decide +kernel
theorem dX7_meanScore_89 : decode cX7_meanScore 89 = .ok (.dreturn, 1) := by decide +kernel
theorem dX7_readyNow_0 : decode cX7_readyNow 0 = .ok (.aload_n 0, 1) := by decide +kernel
theorem dX7_readyNow_1 : decode cX7_readyNow 1 = .ok (.getfield 21, 3) := by decide +kernel
theorem dX7_readyNow_4 : decode cX7_readyNow 4 = .ok (.iload_n 1, 1) := by decide +kernel
theorem dX7_readyNow_5 : decode cX7_readyNow 5 = .ok (.aaload, 1) := by decide +kernel
theorem dX7_readyNow_6 : decode cX7_readyNow 6 = .ok (.iconst 3, 1) := by decide +kernel
theorem dX7_readyNow_7 : decode cX7_readyNow 7 = .ok (.iaload, 1) := by decide +kernel
theorem dX7_readyNow_8 : decode cX7_readyNow 8 = .ok (.istore_n 3, 1) := by decide +kernel
theorem dX7_readyNow_9 : decode cX7_readyNow 9 = .ok (.aload_n 0, 1) := by decide +kernel
theorem dX7_readyNow_10 : decode cX7_readyNow 10 = .ok (.getfield 21, 3) := by decide +kernel
theorem dX7_readyNow_13 : decode cX7_readyNow 13 = .ok (.iload_n 1, 1) := by decide +kernel
theorem dX7_readyNow_14 : decode cX7_readyNow 14 = .ok (.aaload, 1) := by decide +kernel
theorem dX7_readyNow_15 : decode cX7_readyNow 15 = .ok (.iconst 0, 1) := by decide +kernel
theorem dX7_readyNow_16 : decode cX7_readyNow 16 = .ok (.iaload, 1) := by decide +kernel
theorem dX7_readyNow_17 : decode cX7_readyNow 17 = .ok (.ifCond .ne 5, 3) := by decide +kernel
theorem dX7_readyNow_20 : decode cX7_readyNow 20 = .ok (.iconst (-1), 1) := by decide +kernel
theorem dX7_readyNow_21 : decode cX7_readyNow 21 = .ok (.ireturn, 1) := by decide +kernel
theorem dX7_readyNow_22 : decode cX7_readyNow 22 = .ok (.iconst 0, 1) := by decide +kernel
theorem dX7_readyNow_23 : decode cX7_readyNow 23 = .ok (.istore 4, 2) := by decide +kernel
theorem dX7_readyNow_25 : decode cX7_readyNow 25 = .ok (.iload 4, 2) := by decide +kernel
theorem dX7_readyNow_27 : decode cX7_readyNow 27 = .ok (.sipush 200, 3) := by decide +kernel
theorem dX7_readyNow_30 : decode cX7_readyNow 30 = .ok (.if_icmp .gt 31, 3) := by decide +kernel
theorem dX7_readyNow_33 : decode cX7_readyNow 33 = .ok (.iload_n 3, 1) := by decide +kernel
theorem dX7_readyNow_34 : decode cX7_readyNow 34 = .ok (.bipush 60, 2) := by decide +kernel
theorem dX7_readyNow_36 : decode cX7_readyNow 36 = .ok (.if_icmp .lt 6, 3) := by decide +kernel
theorem dX7_readyNow_39 : decode cX7_readyNow 39 = .ok (.iload 4, 2) := by decide +kernel
theorem dX7_readyNow_41 : decode cX7_readyNow 41 = .ok (.ireturn, 1) := by decide +kernel
theorem dX7_readyNow_42 : decode cX7_readyNow 42 = .ok (.iload_n 3, 1) := by decide +kernel
theorem dX7_readyNow_43 : decode cX7_readyNow 43 = .ok (.aload_n 0, 1) := by decide +kernel
theorem dX7_readyNow_44 : decode cX7_readyNow 44 = .ok (.getfield 21, 3) := by decide +kernel
theorem dX7_readyNow_47 : decode cX7_readyNow 47 = .ok (.iload_n 1, 1) := by decide +kernel
theorem dX7_readyNow_48 : decode cX7_readyNow 48 = .ok (.aaload, 1) := by decide +kernel
theorem dX7_readyNow_49 : decode cX7_readyNow 49 = .ok (.iload_n 2, 1) := by decide +kernel
theorem dX7_readyNow_50 : decode cX7_readyNow 50 = .ok (.invokestatic 109, 3) := by decide +kernel
theorem dX7_readyNow_53 : decode cX7_readyNow 53 = .ok (.iadd, 1) := by decide +kernel
theorem dX7_readyNow_54 : decode cX7_readyNow 54 = .ok (.istore_n 3, 1) := by decide +kernel
theorem dX7_readyNow_55 : decode cX7_readyNow 55 = .ok (.iinc 4 1, 3) := by decide +kernel
theorem dX7_readyNow_58 : decode cX7_readyNow 58 = .ok (.goto (-33), 3) := by decide +kernel
theorem dX7_readyNow_61 : decode cX7_readyNow 61 = .ok (.iconst (-1), 1) := by decide +kernel
theorem dX7_readyNow_62 : decode cX7_readyNow 62 = .ok (.ireturn, 1) := by decide +kernel
theorem dX7_readyIn_0 : decode cX7_readyIn 0 = .ok (.aload_n 0, 1) := by decide +kernel
theorem dX7_readyIn_1 : decode cX7_readyIn 1 = .ok (.iconst 0, 1) := by decide +kernel
theorem dX7_readyIn_2 : decode cX7_readyIn 2 = .ok (.putfield 41, 3) := by decide +kernel
theorem dX7_readyIn_5 : decode cX7_readyIn 5 = .ok (.iload_n 1, 1) := by decide +kernel
theorem dX7_readyIn_6 : decode cX7_readyIn 6 = .ok (.invokestatic 128, 3) := by decide +kernel
theorem dX7_readyIn_9 : decode cX7_readyIn 9 = .ok (.ifCond .ne 9, 3) := by decide +kernel
theorem dX7_readyIn_12 : decode cX7_readyIn 12 = .ok (.aload_n 0, 1) := by decide +kernel
theorem dX7_readyIn_13 : decode cX7_readyIn 13 = .ok (.iconst 1, 1) := by decide +kernel
theorem dX7_readyIn_14 : decode cX7_readyIn 14 = .ok (.invokevirtual 56, 3) := by decide +kernel
theorem dX7_readyIn_17 : decode cX7_readyIn 17 = .ok (.ireturn, 1) := by decide +kernel
theorem dX7_readyIn_18 : decode cX7_readyIn 18 = .ok (.iload_n 2, 1) := by decide +kernel
theorem dX7_readyIn_19 : decode cX7_readyIn 19 = .ok (.invokestatic 119, 3) := by decide +kernel
theorem dX7_readyIn_22 : decode cX7_readyIn 22 = .ok (.ifCond .eq 12, 3) := by decide +kernel
theorem dX7_readyIn_25 : decode cX7_readyIn 25 = .ok (.aload_n 0, 1) := by decide +kernel
theorem dX7_readyIn_26 : decode cX7_readyIn 26 = .ok (.iload_n 1, 1) := by decide +kernel
theorem dX7_readyIn_27 : decode cX7_readyIn 27 = .ok (.iload_n 2, 1) := by decide +kernel
theorem dX7_readyIn_28 : decode cX7_readyIn 28 = .ok (.invokevirtual 235, 3) := by decide +kernel
theorem dX7_readyIn_31 : decode cX7_readyIn 31 = .ok (.goto 8, 3) := by decide +kernel
theorem dX7_readyIn_34 : decode cX7_readyIn 34 = .ok (.aload_n 0, 1) := by decide +kernel
theorem dX7_readyIn_35 : decode cX7_readyIn 35 = .ok (.iconst 2, 1) := by decide +kernel
theorem dX7_readyIn_36 : decode cX7_readyIn 36 = .ok (.invokevirtual 56, 3) := by decide +kernel
theorem dX7_readyIn_39 : decode cX7_readyIn 39 = .ok (.ireturn, 1) := by decide +kernel
theorem dX7_dryNow_0 : decode cX7_dryNow 0 = .ok (.aload_n 0, 1) := by decide +kernel
theorem dX7_dryNow_1 : decode cX7_dryNow 1 = .ok (.getfield 24, 3) := by decide +kernel
theorem dX7_dryNow_4 : decode cX7_dryNow 4 = .ok (.iload_n 1, 1) := by decide +kernel
theorem dX7_dryNow_5 : decode cX7_dryNow 5 = .ok (.invokevirtual 68, 3) := by decide +kernel
theorem dX7_dryNow_8 : decode cX7_dryNow 8 = .ok (.checkcast 72, 3) := by decide +kernel
theorem dX7_dryNow_11 : decode cX7_dryNow 11 = .ok (.invokevirtual 181, 3) := by decide +kernel
theorem dX7_dryNow_14 : decode cX7_dryNow 14 = .ok (.checkcast 72, 3) := by decide +kernel
theorem dX7_dryNow_17 : decode cX7_dryNow 17 = .ok (.astore_n 3, 1) := by decide +kernel
theorem dX7_dryNow_18 : decode cX7_dryNow 18 = .ok (.aload_n 3, 1) := by decide +kernel
theorem dX7_dryNow_19 : decode cX7_dryNow 19 = .ok (.iconst 0, 1) := by decide +kernel
theorem dX7_dryNow_20 : decode cX7_dryNow 20 = .ok (.iaload, 1) := by decide +kernel
theorem dX7_dryNow_21 : decode cX7_dryNow 21 = .ok (.ifCond .ne 5, 3) := by decide +kernel
theorem dX7_dryNow_24 : decode cX7_dryNow 24 = .ok (.iconst (-1), 1) := by decide +kernel
theorem dX7_dryNow_25 : decode cX7_dryNow 25 = .ok (.ireturn, 1) := by decide +kernel
theorem dX7_dryNow_26 : decode cX7_dryNow 26 = .ok (.iconst 0, 1) := by decide +kernel
theorem dX7_dryNow_27 : decode cX7_dryNow 27 = .ok (.istore 4, 2) := by decide +kernel
theorem dX7_dryNow_29 : decode cX7_dryNow 29 = .ok (.iload 4, 2) := by decide +kernel
theorem dX7_dryNow_31 : decode cX7_dryNow 31 = .ok (.sipush 400, 3) := by decide +kernel
theorem dX7_dryNow_34 : decode cX7_dryNow 34 = .ok (.if_icmp .gt 37, 3) := by decide +kernel
theorem dX7_dryNow_37 : decode cX7_dryNow 37 = .ok (.aload_n 3, 1) := by decide +kernel
theorem dX7_dryNow_38 : decode cX7_dryNow 38 = .ok (.iconst 5, 1) := by decide +kernel
theorem dX7_dryNow_39 : decode cX7_dryNow 39 = .ok (.iaload, 1) := by decide +kernel
theorem dX7_dryNow_40 : decode cX7_dryNow 40 = .ok (.bipush 125, 2) := by decide +kernel
theorem dX7_dryNow_42 : decode cX7_dryNow 42 = .ok (.if_icmp .gt 6, 3) := by decide +kernel
theorem dX7_dryNow_45 : decode cX7_dryNow 45 = .ok (.iload 4, 2) := by decide +kernel
theorem dX7_dryNow_47 : decode cX7_dryNow 47 = .ok (.ireturn, 1) := by decide +kernel
theorem dX7_dryNow_48 : decode cX7_dryNow 48 = .ok (.aload_n 3, 1) := by decide +kernel
theorem dX7_dryNow_49 : decode cX7_dryNow 49 = .ok (.aload_n 0, 1) := by decide +kernel
theorem dX7_dryNow_50 : decode cX7_dryNow 50 = .ok (.getfield 73, 3) := by decide +kernel
theorem dX7_dryNow_53 : decode cX7_dryNow 53 = .ok (.iload 4, 2) := by decide +kernel
theorem dX7_dryNow_55 : decode cX7_dryNow 55 = .ok (.iadd, 1) := by decide +kernel
theorem dX7_dryNow_56 : decode cX7_dryNow 56 = .ok (.iconst 1, 1) := by decide +kernel
theorem dX7_dryNow_57 : decode cX7_dryNow 57 = .ok (.iadd, 1) := by decide +kernel
theorem dX7_dryNow_58 : decode cX7_dryNow 58 = .ok (.bipush 24, 2) := by decide +kernel
theorem dX7_dryNow_60 : decode cX7_dryNow 60 = .ok (.irem, 1) := by decide +kernel
theorem dX7_dryNow_61 : decode cX7_dryNow 61 = .ok (.iload_n 2, 1) := by decide +kernel
theorem dX7_dryNow_62 : decode cX7_dryNow 62 = .ok (.invokestatic 115, 3) := by decide +kernel
theorem dX7_dryNow_65 : decode cX7_dryNow 65 = .ok (.iinc 4 1, 3) := by decide +kernel
theorem dX7_dryNow_68 : decode cX7_dryNow 68 = .ok (.goto (-39), 3) := by decide +kernel
theorem dX7_dryNow_71 : decode cX7_dryNow 71 = .ok (.iconst (-1), 1) := by decide +kernel
theorem dX7_dryNow_72 : decode cX7_dryNow 72 = .ok (.ireturn, 1) := by decide +kernel
theorem dX7_dryIn_0 : decode cX7_dryIn 0 = .ok (.aload_n 0, 1) := by decide +kernel
theorem dX7_dryIn_1 : decode cX7_dryIn 1 = .ok (.iconst 0, 1) := by decide +kernel
theorem dX7_dryIn_2 : decode cX7_dryIn 2 = .ok (.putfield 41, 3) := by decide +kernel
theorem dX7_dryIn_5 : decode cX7_dryIn 5 = .ok (.aload_n 0, 1) := by decide +kernel
theorem dX7_dryIn_6 : decode cX7_dryIn 6 = .ok (.iload_n 1, 1) := by decide +kernel
theorem dX7_dryIn_7 : decode cX7_dryIn 7 = .ok (.invokevirtual 139, 3) := by decide +kernel
theorem dX7_dryIn_10 : decode cX7_dryIn 10 = .ok (.ifCond .ne 9, 3) := by decide +kernel
theorem dX7_dryIn_13 : decode cX7_dryIn 13 = .ok (.aload_n 0, 1) := by decide +kernel
theorem dX7_dryIn_14 : decode cX7_dryIn 14 = .ok (.iconst 1, 1) := by decide +kernel
theorem dX7_dryIn_15 : decode cX7_dryIn 15 = .ok (.invokevirtual 56, 3) := by decide +kernel
theorem dX7_dryIn_18 : decode cX7_dryIn 18 = .ok (.ireturn, 1) := by decide +kernel
theorem dX7_dryIn_19 : decode cX7_dryIn 19 = .ok (.iload_n 2, 1) := by decide +kernel
theorem dX7_dryIn_20 : decode cX7_dryIn 20 = .ok (.invokestatic 119, 3) := by decide +kernel
theorem dX7_dryIn_23 : decode cX7_dryIn 23 = .ok (.ifCond .eq 12, 3) := by decide +kernel
theorem dX7_dryIn_26 : decode cX7_dryIn 26 = .ok (.aload_n 0, 1) := by decide +kernel
theorem dX7_dryIn_27 : decode cX7_dryIn 27 = .ok (.iload_n 1, 1) := by decide +kernel
theorem dX7_dryIn_28 : decode cX7_dryIn 28 = .ok (.iload_n 2, 1) := by decide +kernel
theorem dX7_dryIn_29 : decode cX7_dryIn 29 = .ok (.invokevirtual 238, 3) := by decide +kernel
theorem dX7_dryIn_32 : decode cX7_dryIn 32 = .ok (.goto 8, 3) := by decide +kernel
theorem dX7_dryIn_35 : decode cX7_dryIn 35 = .ok (.aload_n 0, 1) := by decide +kernel
theorem dX7_dryIn_36 : decode cX7_dryIn 36 = .ok (.iconst 2, 1) := by decide +kernel
theorem dX7_dryIn_37 : decode cX7_dryIn 37 = .ok (.invokevirtual 56, 3) := by decide +kernel
theorem dX7_dryIn_40 : decode cX7_dryIn 40 = .ok (.ireturn, 1) := by decide +kernel
theorem dX7_bestNow_0 : decode cX7_bestNow 0 = .ok (.iconst (-1), 1) := by decide +kernel
theorem dX7_bestNow_1 : decode cX7_bestNow 1 = .ok (.istore_n 1, 1) := by decide +kernel
theorem dX7_bestNow_2 : decode cX7_bestNow 2 = .ok (.iconst (-1), 1) := by decide +kernel
theorem dX7_bestNow_3 : decode cX7_bestNow 3 = .ok (.istore_n 2, 1) := by decide +kernel
theorem dX7_bestNow_4 : decode cX7_bestNow 4 = .ok (.iconst 0, 1) := by decide +kernel
theorem dX7_bestNow_5 : decode cX7_bestNow 5 = .ok (.istore_n 3, 1) := by decide +kernel
theorem dX7_bestNow_6 : decode cX7_bestNow 6 = .ok (.iload_n 3, 1) := by decide +kernel
theorem dX7_bestNow_7 : decode cX7_bestNow 7 = .ok (.aload_n 0, 1) := by decide +kernel
theorem dX7_bestNow_8 : decode cX7_bestNow 8 = .ok (.getfield 27, 3) := by decide +kernel
theorem dX7_bestNow_11 : decode cX7_bestNow 11 = .ok (.invokevirtual 44, 3) := by decide +kernel
theorem dX7_bestNow_14 : decode cX7_bestNow 14 = .ok (.if_icmp .ge 116, 3) := by decide +kernel
theorem dX7_bestNow_17 : decode cX7_bestNow 17 = .ok (.iload_n 3, 1) := by decide +kernel
theorem dX7_bestNow_18 : decode cX7_bestNow 18 = .ok (.iconst 1, 1) := by decide +kernel
theorem dX7_bestNow_19 : decode cX7_bestNow 19 = .ok (.iadd, 1) := by decide +kernel
theorem dX7_bestNow_20 : decode cX7_bestNow 20 = .ok (.istore 4, 2) := by decide +kernel
theorem dX7_bestNow_22 : decode cX7_bestNow 22 = .ok (.iload 4, 2) := by decide +kernel
theorem dX7_bestNow_24 : decode cX7_bestNow 24 = .ok (.aload_n 0, 1) := by decide +kernel
theorem dX7_bestNow_25 : decode cX7_bestNow 25 = .ok (.getfield 27, 3) := by decide +kernel
theorem dX7_bestNow_28 : decode cX7_bestNow 28 = .ok (.invokevirtual 44, 3) := by decide +kernel
theorem dX7_bestNow_31 : decode cX7_bestNow 31 = .ok (.if_icmp .ge 93, 3) := by decide +kernel
theorem dX7_bestNow_34 : decode cX7_bestNow 34 = .ok (.aload_n 0, 1) := by decide +kernel
theorem dX7_bestNow_35 : decode cX7_bestNow 35 = .ok (.getfield 27, 3) := by decide +kernel
theorem dX7_bestNow_38 : decode cX7_bestNow 38 = .ok (.iload_n 3, 1) := by decide +kernel
theorem dX7_bestNow_39 : decode cX7_bestNow 39 = .ok (.invokevirtual 68, 3) := by decide +kernel
theorem dX7_bestNow_42 : decode cX7_bestNow 42 = .ok (.checkcast 72, 3) := by decide +kernel
theorem dX7_bestNow_45 : decode cX7_bestNow 45 = .ok (.aload_n 0, 1) := by decide +kernel
theorem dX7_bestNow_46 : decode cX7_bestNow 46 = .ok (.getfield 27, 3) := by decide +kernel
theorem dX7_bestNow_49 : decode cX7_bestNow 49 = .ok (.iload 4, 2) := by decide +kernel
theorem dX7_bestNow_51 : decode cX7_bestNow 51 = .ok (.invokevirtual 68, 3) := by decide +kernel
theorem dX7_bestNow_54 : decode cX7_bestNow 54 = .ok (.checkcast 72, 3) := by decide +kernel
theorem dX7_bestNow_57 : decode cX7_bestNow 57 = .ok (.invokestatic 184, 3) := by decide +kernel
theorem dX7_bestNow_60 : decode cX7_bestNow 60 = .ok (.ifCond .ne 6, 3) := by decide +kernel
theorem dX7_bestNow_63 : decode cX7_bestNow 63 = .ok (.goto 55, 3) := by decide +kernel
theorem dX7_bestNow_66 : decode cX7_bestNow 66 = .ok (.aload_n 0, 1) := by decide +kernel
theorem dX7_bestNow_67 : decode cX7_bestNow 67 = .ok (.aload_n 0, 1) := by decide +kernel
theorem dX7_bestNow_68 : decode cX7_bestNow 68 = .ok (.getfield 27, 3) := by decide +kernel
theorem dX7_bestNow_71 : decode cX7_bestNow 71 = .ok (.iload_n 3, 1) := by decide +kernel
theorem dX7_bestNow_72 : decode cX7_bestNow 72 = .ok (.invokevirtual 68, 3) := by decide +kernel
theorem dX7_bestNow_75 : decode cX7_bestNow 75 = .ok (.checkcast 72, 3) := by decide +kernel
theorem dX7_bestNow_78 : decode cX7_bestNow 78 = .ok (.aload_n 0, 1) := by decide +kernel
theorem dX7_bestNow_79 : decode cX7_bestNow 79 = .ok (.getfield 27, 3) := by decide +kernel
theorem dX7_bestNow_82 : decode cX7_bestNow 82 = .ok (.iload 4, 2) := by decide +kernel
theorem dX7_bestNow_84 : decode cX7_bestNow 84 = .ok (.invokevirtual 68, 3) := by decide +kernel
theorem dX7_bestNow_87 : decode cX7_bestNow 87 = .ok (.checkcast 72, 3) := by decide +kernel
theorem dX7_bestNow_90 : decode cX7_bestNow 90 = .ok (.invokestatic 188, 3) := by decide +kernel
theorem dX7_bestNow_93 : decode cX7_bestNow 93 = .ok (.invokevirtual 177, 3) := by decide +kernel
theorem dX7_bestNow_96 : decode cX7_bestNow 96 = .ok (.istore 5, 2) := by decide +kernel
theorem dX7_bestNow_98 : decode cX7_bestNow 98 = .ok (.iload 5, 2) := by decide +kernel
theorem dX7_bestNow_100 : decode cX7_bestNow 100 = .ok (.iload_n 2, 1) := by decide +kernel
theorem dX7_bestNow_101 : decode cX7_bestNow 101 = .ok (.if_icmp .gt 6, 3) := by decide +kernel
theorem dX7_bestNow_104 : decode cX7_bestNow 104 = .ok (.goto 14, 3) := by decide +kernel
theorem dX7_bestNow_107 : decode cX7_bestNow 107 = .ok (.iload 5, 2) := by decide +kernel
theorem dX7_bestNow_109 : decode cX7_bestNow 109 = .ok (.istore_n 2, 1) := by decide +kernel
theorem dX7_bestNow_110 : decode cX7_bestNow 110 = .ok (.bipush 20, 2) := by decide +kernel
theorem dX7_bestNow_112 : decode cX7_bestNow 112 = .ok (.iload_n 3, 1) := by decide +kernel
theorem dX7_bestNow_113 : decode cX7_bestNow 113 = .ok (.imul, 1) := by decide +kernel
theorem dX7_bestNow_114 : decode cX7_bestNow 114 = .ok (.iload 4, 2) := by decide +kernel
theorem dX7_bestNow_116 : decode cX7_bestNow 116 = .ok (.iadd, 1) := by decide +kernel
theorem dX7_bestNow_117 : decode cX7_bestNow 117 = .ok (.istore_n 1, 1) := by decide +kernel
theorem dX7_bestNow_118 : decode cX7_bestNow 118 = .ok (.iinc 4 1, 3) := by decide +kernel
theorem dX7_bestNow_121 : decode cX7_bestNow 121 = .ok (.goto (-99), 3) := by decide +kernel
theorem dX7_bestNow_124 : decode cX7_bestNow 124 = .ok (.iinc 3 1, 3) := by decide +kernel
theorem dX7_bestNow_127 : decode cX7_bestNow 127 = .ok (.goto (-121), 3) := by decide +kernel
theorem dX7_bestNow_130 : decode cX7_bestNow 130 = .ok (.iload_n 1, 1) := by decide +kernel
theorem dX7_bestNow_131 : decode cX7_bestNow 131 = .ok (.ireturn, 1) := by decide +kernel
theorem dX7_bestBlend_0 : decode cX7_bestBlend 0 = .ok (.aload_n 0, 1) := by decide +kernel
theorem dX7_bestBlend_1 : decode cX7_bestBlend 1 = .ok (.iconst 0, 1) := by decide +kernel
theorem dX7_bestBlend_2 : decode cX7_bestBlend 2 = .ok (.putfield 41, 3) := by decide +kernel
theorem dX7_bestBlend_5 : decode cX7_bestBlend 5 = .ok (.aload_n 0, 1) := by decide +kernel
theorem dX7_bestBlend_6 : decode cX7_bestBlend 6 = .ok (.invokevirtual 241, 3) := by decide +kernel
theorem dX7_bestBlend_9 : decode cX7_bestBlend 9 = .ok (.ireturn, 1) := by decide +kernel
theorem dX7_wouldShare_0 : decode cX7_wouldShare 0 = .ok (.aload_n 0, 1) := by decide +kernel
theorem dX7_wouldShare_1 : decode cX7_wouldShare 1 = .ok (.iconst 0, 1) := by decide +kernel
theorem dX7_wouldShare_2 : decode cX7_wouldShare 2 = .ok (.putfield 41, 3) := by decide +kernel
theorem dX7_wouldShare_5 : decode cX7_wouldShare 5 = .ok (.aload_n 0, 1) := by decide +kernel
theorem dX7_wouldShare_6 : decode cX7_wouldShare 6 = .ok (.iload_n 1, 1) := by decide +kernel
theorem dX7_wouldShare_7 : decode cX7_wouldShare 7 = .ok (.invokevirtual 170, 3) := by decide +kernel
theorem dX7_wouldShare_10 : decode cX7_wouldShare 10 = .ok (.ifCond .eq 11, 3) := by decide +kernel
theorem dX7_wouldShare_13 : decode cX7_wouldShare 13 = .ok (.aload_n 0, 1) := by decide +kernel
theorem dX7_wouldShare_14 : decode cX7_wouldShare 14 = .ok (.iload_n 2, 1) := by decide +kernel
theorem dX7_wouldShare_15 : decode cX7_wouldShare 15 = .ok (.invokevirtual 64, 3) := by decide +kernel
theorem dX7_wouldShare_18 : decode cX7_wouldShare 18 = .ok (.ifCond .ne 9, 3) := by decide +kernel
theorem dX7_wouldShare_21 : decode cX7_wouldShare 21 = .ok (.aload_n 0, 1) := by decide +kernel
theorem dX7_wouldShare_22 : decode cX7_wouldShare 22 = .ok (.iconst 1, 1) := by decide +kernel
theorem dX7_wouldShare_23 : decode cX7_wouldShare 23 = .ok (.invokevirtual 56, 3) := by decide +kernel
theorem dX7_wouldShare_26 : decode cX7_wouldShare 26 = .ok (.ireturn, 1) := by decide +kernel
theorem dX7_wouldShare_27 : decode cX7_wouldShare 27 = .ok (.iload_n 3, 1) := by decide +kernel
theorem dX7_wouldShare_28 : decode cX7_wouldShare 28 = .ok (.iconst 1, 1) := by decide +kernel
theorem dX7_wouldShare_29 : decode cX7_wouldShare 29 = .ok (.sipush 200, 3) := by decide +kernel
theorem dX7_wouldShare_32 : decode cX7_wouldShare 32 = .ok (.invokestatic 48, 3) := by decide +kernel
theorem dX7_wouldShare_35 : decode cX7_wouldShare 35 = .ok (.ifCond .ne 9, 3) := by decide +kernel
theorem dX7_wouldShare_38 : decode cX7_wouldShare 38 = .ok (.aload_n 0, 1) := by decide +kernel
theorem dX7_wouldShare_39 : decode cX7_wouldShare 39 = .ok (.iconst 2, 1) := by decide +kernel
theorem dX7_wouldShare_40 : decode cX7_wouldShare 40 = .ok (.invokevirtual 56, 3) := by decide +kernel
theorem dX7_wouldShare_43 : decode cX7_wouldShare 43 = .ok (.ireturn, 1) := by decide +kernel
theorem dX7_wouldShare_44 : decode cX7_wouldShare 44 = .ok (.aload_n 0, 1) := by decide +kernel
theorem dX7_wouldShare_45 : decode cX7_wouldShare 45 = .ok (.iload_n 1, 1) := by decide +kernel
theorem dX7_wouldShare_46 : decode cX7_wouldShare 46 = .ok (.invokevirtual 207, 3) := by decide +kernel
theorem dX7_wouldShare_49 : decode cX7_wouldShare 49 = .ok (.ifCond .eq 15, 3) := by decide +kernel
theorem dX7_wouldShare_52 : decode cX7_wouldShare 52 = .ok (.aload_n 0, 1) := by decide +kernel
theorem dX7_wouldShare_53 : decode cX7_wouldShare 53 = .ok (.iload_n 1, 1) := by decide +kernel
theorem dX7_wouldShare_54 : decode cX7_wouldShare 54 = .ok (.iload_n 2, 1) := by decide +kernel
theorem dX7_wouldShare_55 : decode cX7_wouldShare 55 = .ok (.iload_n 3, 1) := by decide +kernel
theorem dX7_wouldShare_56 : decode cX7_wouldShare 56 = .ok (.iload 4, 2) := by decide +kernel
theorem dX7_wouldShare_58 : decode cX7_wouldShare 58 = .ok (.invokevirtual 210, 3) := by decide +kernel
theorem dX7_wouldShare_61 : decode cX7_wouldShare 61 = .ok (.goto 8, 3) := by decide +kernel
theorem dX7_wouldShare_64 : decode cX7_wouldShare 64 = .ok (.aload_n 0, 1) := by decide +kernel
theorem dX7_wouldShare_65 : decode cX7_wouldShare 65 = .ok (.iconst 3, 1) := by decide +kernel
theorem dX7_wouldShare_66 : decode cX7_wouldShare 66 = .ok (.invokevirtual 56, 3) := by decide +kernel
theorem dX7_wouldShare_69 : decode cX7_wouldShare 69 = .ok (.ireturn, 1) := by decide +kernel
theorem dX7_add_0 : decode cX7_add 0 = .ok (.aload_n 0, 1) := by decide +kernel
theorem dX7_add_1 : decode cX7_add 1 = .ok (.aload_n 0, 1) := by decide +kernel
theorem dX7_add_2 : decode cX7_add 2 = .ok (.getfield 244, 3) := by decide +kernel
theorem dX7_add_5 : decode cX7_add 5 = .ok (.ldc2_w 247, 3) := by decide +kernel
theorem dX7_add_8 : decode cX7_add 8 = .ok (.lmul, 1) := by decide +kernel
theorem dX7_add_9 : decode cX7_add 9 = .ok (.iload_n 1, 1) := by decide +kernel
theorem dX7_add_10 : decode cX7_add 10 = .ok (.i2l, 1) := by decide +kernel
theorem dX7_add_11 : decode cX7_add 11 = .ok (.ladd, 1) := by decide +kernel
theorem dX7_add_12 : decode cX7_add 12 = .ok (.putfield 244, 3) := by decide +kernel
theorem dX7_add_15 : decode cX7_add 15 = .ok (.return_, 1) := by decide +kernel
theorem dX7_digest_0 : decode cX7_digest 0 = .ok (.aload_n 0, 1) := by decide +kernel
theorem dX7_digest_1 : decode cX7_digest 1 = .ok (.iconst 0, 1) := by decide +kernel
theorem dX7_digest_2 : decode cX7_digest 2 = .ok (.putfield 41, 3) := by decide +kernel
theorem dX7_digest_5 : decode cX7_digest 5 = .ok (.aload_n 0, 1) := by decide +kernel
theorem dX7_digest_6 : decode cX7_digest 6 = .ok (.ldc2_w 249, 3) := by decide +kernel
theorem dX7_digest_9 : decode cX7_digest 9 = .ok (.putfield 244, 3) := by decide +kernel
theorem dX7_digest_12 : decode cX7_digest 12 = .ok (.iconst 0, 1) := by decide +kernel
theorem dX7_digest_13 : decode cX7_digest 13 = .ok (.istore_n 1, 1) := by decide +kernel
theorem dX7_digest_14 : decode cX7_digest 14 = .ok (.iload_n 1, 1) := by decide +kernel
theorem dX7_digest_15 : decode cX7_digest 15 = .ok (.bipush 16, 2) := by decide +kernel
theorem dX7_digest_17 : decode cX7_digest 17 = .ok (.if_icmp .ge 18, 3) := by decide +kernel
theorem dX7_digest_20 : decode cX7_digest 20 = .ok (.aload_n 0, 1) := by decide +kernel
theorem dX7_digest_21 : decode cX7_digest 21 = .ok (.aload_n 0, 1) := by decide +kernel
theorem dX7_digest_22 : decode cX7_digest 22 = .ok (.iload_n 1, 1) := by decide +kernel
theorem dX7_digest_23 : decode cX7_digest 23 = .ok (.invokevirtual 232, 3) := by decide +kernel
theorem dX7_digest_26 : decode cX7_digest 26 = .ok (.invokevirtual 251, 3) := by decide +kernel
theorem dX7_digest_29 : decode cX7_digest 29 = .ok (.iinc 1 1, 3) := by decide +kernel
theorem dX7_digest_32 : decode cX7_digest 32 = .ok (.goto (-18), 3) := by decide +kernel
theorem dX7_digest_35 : decode cX7_digest 35 = .ok (.iconst 0, 1) := by decide +kernel
theorem dX7_digest_36 : decode cX7_digest 36 = .ok (.istore_n 1, 1) := by decide +kernel
theorem dX7_digest_37 : decode cX7_digest 37 = .ok (.iload_n 1, 1) := by decide +kernel
theorem dX7_digest_38 : decode cX7_digest 38 = .ok (.aload_n 0, 1) := by decide +kernel
theorem dX7_digest_39 : decode cX7_digest 39 = .ok (.getfield 12, 3) := by decide +kernel
theorem dX7_digest_42 : decode cX7_digest 42 = .ok (.invokevirtual 44, 3) := by decide +kernel
theorem dX7_digest_45 : decode cX7_digest 45 = .ok (.if_icmp .ge 32, 3) := by decide +kernel
theorem dX7_digest_48 : decode cX7_digest 48 = .ok (.iconst 0, 1) := by decide +kernel
theorem dX7_digest_49 : decode cX7_digest 49 = .ok (.istore_n 2, 1) := by decide +kernel
theorem dX7_digest_50 : decode cX7_digest 50 = .ok (.iload_n 2, 1) := by decide +kernel
theorem dX7_digest_51 : decode cX7_digest 51 = .ok (.iconst 5, 1) := by decide +kernel
theorem dX7_digest_52 : decode cX7_digest 52 = .ok (.if_icmp .ge 19, 3) := by decide +kernel
theorem dX7_digest_55 : decode cX7_digest 55 = .ok (.aload_n 0, 1) := by decide +kernel
theorem dX7_digest_56 : decode cX7_digest 56 = .ok (.aload_n 0, 1) := by decide +kernel
theorem dX7_digest_57 : decode cX7_digest 57 = .ok (.iload_n 1, 1) := by decide +kernel
theorem dX7_digest_58 : decode cX7_digest 58 = .ok (.iload_n 2, 1) := by decide +kernel
theorem dX7_digest_59 : decode cX7_digest 59 = .ok (.invokevirtual 217, 3) := by decide +kernel
theorem dX7_digest_62 : decode cX7_digest 62 = .ok (.invokevirtual 251, 3) := by decide +kernel
theorem dX7_digest_65 : decode cX7_digest 65 = .ok (.iinc 2 1, 3) := by decide +kernel
theorem dX7_digest_68 : decode cX7_digest 68 = .ok (.goto (-18), 3) := by decide +kernel
theorem dX7_digest_71 : decode cX7_digest 71 = .ok (.iinc 1 1, 3) := by decide +kernel
theorem dX7_digest_74 : decode cX7_digest 74 = .ok (.goto (-37), 3) := by decide +kernel
theorem dX7_digest_77 : decode cX7_digest 77 = .ok (.aload_n 0, 1) := by decide +kernel
theorem dX7_digest_78 : decode cX7_digest 78 = .ok (.getfield 16, 3) := by decide +kernel
theorem dX7_digest_81 : decode cX7_digest 81 = .ok (.invokevirtual 92, 3) := by decide +kernel
theorem dX7_digest_84 : decode cX7_digest 84 = .ok (.astore_n 1, 1) := by decide +kernel
theorem dX7_digest_85 : decode cX7_digest 85 = .ok (.aload_n 1, 1) := by decide +kernel
theorem dX7_digest_86 : decode cX7_digest 86 = .ok (.invokeinterface 96 1, 5) := by decide +kernel
theorem dX7_digest_91 : decode cX7_digest 91 = .ok (.ifCond .eq 50, 3) := by decide +kernel
theorem dX7_digest_94 : decode cX7_digest 94 = .ok (.aload_n 1, 1) := by decide +kernel
theorem dX7_digest_95 : decode cX7_digest 95 = .ok (.invokeinterface 102 1, 5) := by decide +kernel
theorem dX7_digest_100 : decode cX7_digest 100 = .ok (.checkcast 72, 3) := by decide +kernel
theorem dX7_digest_103 : decode cX7_digest 103 = .ok (.astore_n 2, 1) := by decide +kernel
theorem dX7_digest_104 : decode cX7_digest 104 = .ok (.aload_n 2, 1) := by decide +kernel
theorem dX7_digest_105 : decode cX7_digest 105 = .ok (.astore_n 3, 1) := by decide +kernel
theorem dX7_digest_106 : decode cX7_digest 106 = .ok (.aload_n 3, 1) := by decide +kernel
theorem dX7_digest_107 : decode cX7_digest 107 = .ok (.arraylength, 1) := by decide +kernel
theorem dX7_digest_108 : decode cX7_digest 108 = .ok (.istore 4, 2) := by decide +kernel
theorem dX7_digest_110 : decode cX7_digest 110 = .ok (.iconst 0, 1) := by decide +kernel
theorem dX7_digest_111 : decode cX7_digest 111 = .ok (.istore 5, 2) := by decide +kernel
theorem dX7_digest_113 : decode cX7_digest 113 = .ok (.iload 5, 2) := by decide +kernel
theorem dX7_digest_115 : decode cX7_digest 115 = .ok (.iload 4, 2) := by decide +kernel
theorem dX7_digest_117 : decode cX7_digest 117 = .ok (.if_icmp .ge 21, 3) := by decide +kernel
theorem dX7_digest_120 : decode cX7_digest 120 = .ok (.aload_n 3, 1) := by decide +kernel
theorem dX7_digest_121 : decode cX7_digest 121 = .ok (.iload 5, 2) := by decide +kernel
theorem dX7_digest_123 : decode cX7_digest 123 = .ok (.iaload, 1) := by decide +kernel
theorem dX7_digest_124 : decode cX7_digest 124 = .ok (.istore 6, 2) := by decide +kernel
theorem dX7_digest_126 : decode cX7_digest 126 = .ok (.aload_n 0, 1) := by decide +kernel
theorem dX7_digest_127 : decode cX7_digest 127 = .ok (.iload 6, 2) := by decide +kernel
theorem dX7_digest_129 : decode cX7_digest 129 = .ok (.invokevirtual 251, 3) := by decide +kernel
theorem dX7_digest_132 : decode cX7_digest 132 = .ok (.iinc 5 1, 3) := by decide +kernel
theorem dX7_digest_135 : decode cX7_digest 135 = .ok (.goto (-22), 3) := by decide +kernel
theorem dX7_digest_138 : decode cX7_digest 138 = .ok (.goto (-53), 3) := by decide +kernel
theorem dX7_digest_141 : decode cX7_digest 141 = .ok (.iconst 0, 1) := by decide +kernel
theorem dX7_digest_142 : decode cX7_digest 142 = .ok (.istore_n 1, 1) := by decide +kernel
theorem dX7_digest_143 : decode cX7_digest 143 = .ok (.iload_n 1, 1) := by decide +kernel
theorem dX7_digest_144 : decode cX7_digest 144 = .ok (.iconst 3, 1) := by decide +kernel
theorem dX7_digest_145 : decode cX7_digest 145 = .ok (.if_icmp .ge 43, 3) := by decide +kernel
theorem dX7_digest_148 : decode cX7_digest 148 = .ok (.iconst 0, 1) := by decide +kernel
theorem dX7_digest_149 : decode cX7_digest 149 = .ok (.istore_n 2, 1) := by decide +kernel
theorem dX7_digest_150 : decode cX7_digest 150 = .ok (.iload_n 2, 1) := by decide +kernel
theorem dX7_digest_151 : decode cX7_digest 151 = .ok (.iconst 5, 1) := by decide +kernel
theorem dX7_digest_152 : decode cX7_digest 152 = .ok (.if_icmp .ge 19, 3) := by decide +kernel
theorem dX7_digest_155 : decode cX7_digest 155 = .ok (.aload_n 0, 1) := by decide +kernel
theorem dX7_digest_156 : decode cX7_digest 156 = .ok (.aload_n 0, 1) := by decide +kernel
theorem dX7_digest_157 : decode cX7_digest 157 = .ok (.iload_n 1, 1) := by decide +kernel
theorem dX7_digest_158 : decode cX7_digest 158 = .ok (.iload_n 2, 1) := by decide +kernel
theorem dX7_digest_159 : decode cX7_digest 159 = .ok (.invokevirtual 220, 3) := by decide +kernel
theorem dX7_digest_162 : decode cX7_digest 162 = .ok (.invokevirtual 251, 3) := by decide +kernel
theorem dX7_digest_165 : decode cX7_digest 165 = .ok (.iinc 2 1, 3) := by decide +kernel
theorem dX7_digest_168 : decode cX7_digest 168 = .ok (.goto (-18), 3) := by decide +kernel
theorem dX7_digest_171 : decode cX7_digest 171 = .ok (.aload_n 0, 1) := by decide +kernel
theorem dX7_digest_172 : decode cX7_digest 172 = .ok (.aload_n 0, 1) := by decide +kernel
theorem dX7_digest_173 : decode cX7_digest 173 = .ok (.iload_n 1, 1) := by decide +kernel
theorem dX7_digest_174 : decode cX7_digest 174 = .ok (.bipush 20, 2) := by decide +kernel
theorem dX7_digest_176 : decode cX7_digest 176 = .ok (.invokevirtual 235, 3) := by decide +kernel
theorem dX7_digest_179 : decode cX7_digest 179 = .ok (.invokevirtual 251, 3) := by decide +kernel
theorem dX7_digest_182 : decode cX7_digest 182 = .ok (.iinc 1 1, 3) := by decide +kernel
theorem dX7_digest_185 : decode cX7_digest 185 = .ok (.goto (-42), 3) := by decide +kernel
theorem dX7_digest_188 : decode cX7_digest 188 = .ok (.iconst 0, 1) := by decide +kernel
theorem dX7_digest_189 : decode cX7_digest 189 = .ok (.istore_n 1, 1) := by decide +kernel
theorem dX7_digest_190 : decode cX7_digest 190 = .ok (.iload_n 1, 1) := by decide +kernel
theorem dX7_digest_191 : decode cX7_digest 191 = .ok (.aload_n 0, 1) := by decide +kernel
theorem dX7_digest_192 : decode cX7_digest 192 = .ok (.getfield 24, 3) := by decide +kernel
theorem dX7_digest_195 : decode cX7_digest 195 = .ok (.invokevirtual 44, 3) := by decide +kernel
theorem dX7_digest_198 : decode cX7_digest 198 = .ok (.if_icmp .ge 44, 3) := by decide +kernel
theorem dX7_digest_201 : decode cX7_digest 201 = .ok (.iconst 0, 1) := by decide +kernel
theorem dX7_digest_202 : decode cX7_digest 202 = .ok (.istore_n 2, 1) := by decide +kernel
theorem dX7_digest_203 : decode cX7_digest 203 = .ok (.iload_n 2, 1) := by decide +kernel
theorem dX7_digest_204 : decode cX7_digest 204 = .ok (.bipush 8, 2) := by decide +kernel
theorem dX7_digest_206 : decode cX7_digest 206 = .ok (.if_icmp .ge 19, 3) := by decide +kernel
theorem dX7_digest_209 : decode cX7_digest 209 = .ok (.aload_n 0, 1) := by decide +kernel
theorem dX7_digest_210 : decode cX7_digest 210 = .ok (.aload_n 0, 1) := by decide +kernel
theorem dX7_digest_211 : decode cX7_digest 211 = .ok (.iload_n 1, 1) := by decide +kernel
theorem dX7_digest_212 : decode cX7_digest 212 = .ok (.iload_n 2, 1) := by decide +kernel
theorem dX7_digest_213 : decode cX7_digest 213 = .ok (.invokevirtual 223, 3) := by decide +kernel
theorem dX7_digest_216 : decode cX7_digest 216 = .ok (.invokevirtual 251, 3) := by decide +kernel
theorem dX7_digest_219 : decode cX7_digest 219 = .ok (.iinc 2 1, 3) := by decide +kernel
theorem dX7_digest_222 : decode cX7_digest 222 = .ok (.goto (-19), 3) := by decide +kernel
theorem dX7_digest_225 : decode cX7_digest 225 = .ok (.aload_n 0, 1) := by decide +kernel
theorem dX7_digest_226 : decode cX7_digest 226 = .ok (.aload_n 0, 1) := by decide +kernel
theorem dX7_digest_227 : decode cX7_digest 227 = .ok (.iload_n 1, 1) := by decide +kernel
theorem dX7_digest_228 : decode cX7_digest 228 = .ok (.bipush 25, 2) := by decide +kernel
theorem dX7_digest_230 : decode cX7_digest 230 = .ok (.invokevirtual 238, 3) := by decide +kernel
theorem dX7_digest_233 : decode cX7_digest 233 = .ok (.invokevirtual 251, 3) := by decide +kernel
theorem dX7_digest_236 : decode cX7_digest 236 = .ok (.iinc 1 1, 3) := by decide +kernel
theorem dX7_digest_239 : decode cX7_digest 239 = .ok (.goto (-49), 3) := by decide +kernel
theorem dX7_digest_242 : decode cX7_digest 242 = .ok (.iconst 0, 1) := by decide +kernel
theorem dX7_digest_243 : decode cX7_digest 243 = .ok (.istore_n 1, 1) := by decide +kernel
theorem dX7_digest_244 : decode cX7_digest 244 = .ok (.iload_n 1, 1) := by decide +kernel
theorem dX7_digest_245 : decode cX7_digest 245 = .ok (.aload_n 0, 1) := by decide +kernel
theorem dX7_digest_246 : decode cX7_digest 246 = .ok (.getfield 27, 3) := by decide +kernel
theorem dX7_digest_249 : decode cX7_digest 249 = .ok (.invokevirtual 44, 3) := by decide +kernel
theorem dX7_digest_252 : decode cX7_digest 252 = .ok (.if_icmp .ge 72, 3) := by decide +kernel
theorem dX7_digest_255 : decode cX7_digest 255 = .ok (.iconst 0, 1) := by decide +kernel
theorem dX7_digest_256 : decode cX7_digest 256 = .ok (.istore_n 2, 1) := by decide +kernel
theorem dX7_digest_257 : decode cX7_digest 257 = .ok (.iload_n 2, 1) := by decide +kernel
theorem dX7_digest_258 : decode cX7_digest 258 = .ok (.bipush 12, 2) := by decide +kernel
theorem dX7_digest_260 : decode cX7_digest 260 = .ok (.if_icmp .ge 19, 3) := by decide +kernel
theorem dX7_digest_263 : decode cX7_digest 263 = .ok (.aload_n 0, 1) := by decide +kernel
theorem dX7_digest_264 : decode cX7_digest 264 = .ok (.aload_n 0, 1) := by decide +kernel
theorem dX7_digest_265 : decode cX7_digest 265 = .ok (.iload_n 1, 1) := by decide +kernel
theorem dX7_digest_266 : decode cX7_digest 266 = .ok (.iload_n 2, 1) := by decide +kernel
theorem dX7_digest_267 : decode cX7_digest 267 = .ok (.invokevirtual 229, 3) := by decide +kernel
theorem dX7_digest_270 : decode cX7_digest 270 = .ok (.invokevirtual 251, 3) := by decide +kernel
theorem dX7_digest_273 : decode cX7_digest 273 = .ok (.iinc 2 1, 3) := by decide +kernel
theorem dX7_digest_276 : decode cX7_digest 276 = .ok (.goto (-19), 3) := by decide +kernel
theorem dX7_digest_279 : decode cX7_digest 279 = .ok (.iconst 0, 1) := by decide +kernel
theorem dX7_digest_280 : decode cX7_digest 280 = .ok (.istore_n 2, 1) := by decide +kernel
theorem dX7_digest_281 : decode cX7_digest 281 = .ok (.iload_n 2, 1) := by decide +kernel
theorem dX7_digest_282 : decode cX7_digest 282 = .ok (.aload_n 0, 1) := by decide +kernel
theorem dX7_digest_283 : decode cX7_digest 283 = .ok (.getfield 12, 3) := by decide +kernel
theorem dX7_digest_286 : decode cX7_digest 286 = .ok (.invokevirtual 44, 3) := by decide +kernel
theorem dX7_digest_289 : decode cX7_digest 289 = .ok (.if_icmp .ge 29, 3) := by decide +kernel
theorem dX7_digest_292 : decode cX7_digest 292 = .ok (.aload_n 0, 1) := by decide +kernel
theorem dX7_digest_293 : decode cX7_digest 293 = .ok (.aload_n 0, 1) := by decide +kernel
theorem dX7_digest_294 : decode cX7_digest 294 = .ok (.getfield 27, 3) := by decide +kernel
theorem dX7_digest_297 : decode cX7_digest 297 = .ok (.iload_n 1, 1) := by decide +kernel
theorem dX7_digest_298 : decode cX7_digest 298 = .ok (.invokevirtual 68, 3) := by decide +kernel
theorem dX7_digest_301 : decode cX7_digest 301 = .ok (.checkcast 72, 3) := by decide +kernel
theorem dX7_digest_304 : decode cX7_digest 304 = .ok (.bipush 11, 2) := by decide +kernel
theorem dX7_digest_306 : decode cX7_digest 306 = .ok (.iload_n 2, 1) := by decide +kernel
theorem dX7_digest_307 : decode cX7_digest 307 = .ok (.iadd, 1) := by decide +kernel
theorem dX7_digest_308 : decode cX7_digest 308 = .ok (.iaload, 1) := by decide +kernel
theorem dX7_digest_309 : decode cX7_digest 309 = .ok (.invokevirtual 251, 3) := by decide +kernel
theorem dX7_digest_312 : decode cX7_digest 312 = .ok (.iinc 2 1, 3) := by decide +kernel
theorem dX7_digest_315 : decode cX7_digest 315 = .ok (.goto (-34), 3) := by decide +kernel
theorem dX7_digest_318 : decode cX7_digest 318 = .ok (.iinc 1 1, 3) := by decide +kernel
theorem dX7_digest_321 : decode cX7_digest 321 = .ok (.goto (-77), 3) := by decide +kernel
theorem dX7_digest_324 : decode cX7_digest 324 = .ok (.aload_n 0, 1) := by decide +kernel
theorem dX7_digest_325 : decode cX7_digest 325 = .ok (.aload_n 0, 1) := by decide +kernel
theorem dX7_digest_326 : decode cX7_digest 326 = .ok (.invokevirtual 241, 3) := by decide +kernel
theorem dX7_digest_329 : decode cX7_digest 329 = .ok (.invokevirtual 251, 3) := by decide +kernel
theorem dX7_digest_332 : decode cX7_digest 332 = .ok (.aload_n 0, 1) := by decide +kernel
theorem dX7_digest_333 : decode cX7_digest 333 = .ok (.getfield 244, 3) := by decide +kernel
theorem dX7_digest_336 : decode cX7_digest 336 = .ok (.lreturn, 1) := by decide +kernel
theorem dJ9_max_7cf53_0 : decode cJ9_max_7cf53 0 = .ok (.iload_n 0, 1) := by decide +kernel
theorem dJ9_max_7cf53_1 : decode cJ9_max_7cf53 1 = .ok (.iload_n 1, 1) := by decide +kernel
theorem dJ9_max_7cf53_2 : decode cJ9_max_7cf53 2 = .ok (.if_icmp .lt 7, 3) := by decide +kernel
theorem dJ9_max_7cf53_5 : decode cJ9_max_7cf53 5 = .ok (.iload_n 0, 1) := by decide +kernel
theorem dJ9_max_7cf53_6 : decode cJ9_max_7cf53 6 = .ok (.goto 4, 3) := by decide +kernel
theorem dJ9_max_7cf53_9 : decode cJ9_max_7cf53 9 = .ok (.iload_n 1, 1) := by decide +kernel
theorem dJ9_max_7cf53_10 : decode cJ9_max_7cf53 10 = .ok (.ireturn, 1) := by decide +kernel
theorem dJ9_min_7cf53_0 : decode cJ9_min_7cf53 0 = .ok (.iload_n 0, 1) := by decide +kernel
theorem dJ9_min_7cf53_1 : decode cJ9_min_7cf53 1 = .ok (.iload_n 1, 1) := by decide +kernel
theorem dJ9_min_7cf53_2 : decode cJ9_min_7cf53 2 = .ok (.if_icmp .gt 7, 3) := by decide +kernel
theorem dJ9_min_7cf53_5 : decode cJ9_min_7cf53 5 = .ok (.iload_n 0, 1) := by decide +kernel
theorem dJ9_min_7cf53_6 : decode cJ9_min_7cf53 6 = .ok (.goto 4, 3) := by decide +kernel
theorem dJ9_min_7cf53_9 : decode cJ9_min_7cf53 9 = .ok (.iload_n 1, 1) := by decide +kernel
theorem dJ9_min_7cf53_10 : decode cJ9_min_7cf53 10 = .ok (.ireturn, 1) := by decide +kernel
theorem dJxa1e45_init_da8c8_0 : decode cJxa1e45_init_da8c8 0 = .ok (.aload_n 0, 1) := by decide +kernel
theorem dJxa1e45_init_da8c8_1 : decode cJxa1e45_init_da8c8 1 = .ok (.invokespecial 1, 3) := by decide +kernel
theorem dJxa1e45_init_da8c8_4 : decode cJxa1e45_init_da8c8 4 = .ok (.return_, 1) := by decide +kernel
theorem dJxc12de_init_da8c8_0 : decode cJxc12de_init_da8c8 0 = .ok (.aload_n 0, 1) := by decide +kernel
theorem dJxc12de_init_da8c8_1 : decode cJxc12de_init_da8c8 1 = .ok (.invokespecial 1, 3) := by decide +kernel
theorem dJxc12de_init_da8c8_4 : decode cJxc12de_init_da8c8 4 = .ok (.aload_n 0, 1) := by decide +kernel
theorem dJxc12de_init_da8c8_5 : decode cJxc12de_init_da8c8 5 = .ok (.iconst 0, 1) := by decide +kernel
theorem dJxc12de_init_da8c8_6 : decode cJxc12de_init_da8c8 6 = .ok (.putfield 7, 3) := by decide +kernel
theorem dJxc12de_init_da8c8_9 : decode cJxc12de_init_da8c8 9 = .ok (.return_, 1) := by decide +kernel
theorem dJx35411_init_45d68_0 : decode cJx35411_init_45d68 0 = .ok (.aload_n 0, 1) := by decide +kernel
theorem dJx35411_init_45d68_1 : decode cJx35411_init_45d68 1 = .ok (.aload_n 1, 1) := by decide +kernel
theorem dJx35411_init_45d68_2 : decode cJx35411_init_45d68 2 = .ok (.putfield 1, 3) := by decide +kernel
theorem dJx35411_init_45d68_5 : decode cJx35411_init_45d68 5 = .ok (.aload_n 0, 1) := by decide +kernel
theorem dJx35411_init_45d68_6 : decode cJx35411_init_45d68 6 = .ok (.invokespecial 7, 3) := by decide +kernel
theorem dJx35411_init_45d68_9 : decode cJx35411_init_45d68 9 = .ok (.aload_n 0, 1) := by decide +kernel
theorem dJx35411_init_45d68_10 : decode cJx35411_init_45d68 10 = .ok (.iconst (-1), 1) := by decide +kernel
theorem dJx35411_init_45d68_11 : decode cJx35411_init_45d68 11 = .ok (.putfield 13, 3) := by decide +kernel
theorem dJx35411_init_45d68_14 : decode cJx35411_init_45d68 14 = .ok (.aload_n 0, 1) := by decide +kernel
theorem dJx35411_init_45d68_15 : decode cJx35411_init_45d68 15 = .ok (.aload_n 0, 1) := by decide +kernel
theorem dJx35411_init_45d68_16 : decode cJx35411_init_45d68 16 = .ok (.getfield 1, 3) := by decide +kernel
theorem dJx35411_init_45d68_19 : decode cJx35411_init_45d68 19 = .ok (.getfield 17, 3) := by decide +kernel
theorem dJx35411_init_45d68_22 : decode cJx35411_init_45d68 22 = .ok (.putfield 22, 3) := by decide +kernel
theorem dJx35411_init_45d68_25 : decode cJx35411_init_45d68 25 = .ok (.return_, 1) := by decide +kernel
theorem dJx35411_hasNext_aae02_0 : decode cJx35411_hasNext_aae02 0 = .ok (.aload_n 0, 1) := by decide +kernel
theorem dJx35411_hasNext_aae02_1 : decode cJx35411_hasNext_aae02 1 = .ok (.getfield 25, 3) := by decide +kernel
theorem dJx35411_hasNext_aae02_4 : decode cJx35411_hasNext_aae02 4 = .ok (.aload_n 0, 1) := by decide +kernel
theorem dJx35411_hasNext_aae02_5 : decode cJx35411_hasNext_aae02 5 = .ok (.getfield 1, 3) := by decide +kernel
theorem dJx35411_hasNext_aae02_8 : decode cJx35411_hasNext_aae02 8 = .ok (.getfield 28, 3) := by decide +kernel
theorem dJx35411_hasNext_aae02_11 : decode cJx35411_hasNext_aae02 11 = .ok (.if_icmp .eq 7, 3) := by decide +kernel
theorem dJx35411_hasNext_aae02_14 : decode cJx35411_hasNext_aae02 14 = .ok (.iconst 1, 1) := by decide +kernel
theorem dJx35411_hasNext_aae02_15 : decode cJx35411_hasNext_aae02 15 = .ok (.goto 4, 3) := by decide +kernel
theorem dJx35411_hasNext_aae02_18 : decode cJx35411_hasNext_aae02 18 = .ok (.iconst 0, 1) := by decide +kernel
theorem dJx35411_hasNext_aae02_19 : decode cJx35411_hasNext_aae02 19 = .ok (.ireturn, 1) := by decide +kernel
theorem dJx35411_next_0502b_0 : decode cJx35411_next_0502b 0 = .ok (.aload_n 0, 1) := by decide +kernel
theorem dJx35411_next_0502b_1 : decode cJx35411_next_0502b 1 = .ok (.invokevirtual 31, 3) := by decide +kernel
theorem dJx35411_next_0502b_4 : decode cJx35411_next_0502b 4 = .ok (.aload_n 0, 1) := by decide +kernel
theorem dJx35411_next_0502b_5 : decode cJx35411_next_0502b 5 = .ok (.getfield 25, 3) := by decide +kernel
theorem dJx35411_next_0502b_8 : decode cJx35411_next_0502b 8 = .ok (.istore_n 1, 1) := by decide +kernel
theorem dJx35411_next_0502b_9 : decode cJx35411_next_0502b 9 = .ok (.iload_n 1, 1) := by decide +kernel
theorem dJx35411_next_0502b_10 : decode cJx35411_next_0502b 10 = .ok (.aload_n 0, 1) := by decide +kernel
theorem dJx35411_next_0502b_11 : decode cJx35411_next_0502b 11 = .ok (.getfield 1, 3) := by decide +kernel
theorem dJx35411_next_0502b_14 : decode cJx35411_next_0502b 14 = .ok (.getfield 28, 3) := by decide +kernel
theorem dJx35411_next_0502b_17 : decode cJx35411_next_0502b 17 = .ok (.if_icmp .lt 11, 3) := by decide +kernel
theorem dJx35411_next_0502b_20 : decode cJx35411_next_0502b 20 = .ok (.new 34, 3) := by decide +kernel
theorem dJx35411_next_0502b_23 : decode cJx35411_next_0502b 23 = .ok (.dup, 1) := by decide +kernel
