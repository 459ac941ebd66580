theorem dX6_init_91 : decode cX6_init 91 = .ok (.iconst 0, 1) := by decide +kernel
theorem dX6_init_92 : decode cX6_init 92 = .ok (.putfield 64, 3) := by decide +kernel
theorem dX6_init_95 : decode cX6_init 95 = .ok (.aload_n 0, 1) := by decide +kernel
theorem dX6_init_96 : decode cX6_init 96 = .ok (.iconst 5, 1) := by decide +kernel
theorem dX6_init_97 : decode cX6_init 97 = .ok (.putfield 67, 3) := by decide +kernel
theorem dX6_init_100 : decode cX6_init 100 = .ok (.aload_n 0, 1) := by decide +kernel
theorem dX6_init_101 : decode cX6_init 101 = .ok (.iconst 0, 1) := by decide +kernel
theorem dX6_init_102 : decode cX6_init 102 = .ok (.putfield 70, 3) := by decide +kernel
theorem dX6_init_105 : decode cX6_init 105 = .ok (.aload_n 0, 1) := by decide +kernel
theorem dX6_init_106 : decode cX6_init 106 = .ok (.iconst 0, 1) := by decide +kernel
theorem dX6_init_107 : decode cX6_init 107 = .ok (.putfield 73, 3) := by decide +kernel
theorem dX6_init_110 : decode cX6_init 110 = .ok (.aload_n 0, 1) := by decide +kernel
theorem dX6_init_111 : decode cX6_init 111 = .ok (.iconst 0, 1) := by decide +kernel
theorem dX6_init_112 : decode cX6_init 112 = .ok (.putfield 76, 3) := by decide +kernel
theorem dX6_init_115 : decode cX6_init 115 = .ok (.aload_n 0, 1) := by decide +kernel
theorem dX6_init_116 : decode cX6_init 116 = .ok (.iconst 0, 1) := by decide +kernel
theorem dX6_init_117 : decode cX6_init 117 = .ok (.putfield 79, 3) := by decide +kernel
theorem dX6_init_120 : decode cX6_init 120 = .ok (.iconst 0, 1) := by decide +kernel
theorem dX6_init_121 : decode cX6_init 121 = .ok (.istore_n 1, 1) := by decide +kernel
theorem dX6_init_122 : decode cX6_init 122 = .ok (.iload_n 1, 1) := by decide +kernel
theorem dX6_init_123 : decode cX6_init 123 = .ok (.bipush 6, 2) := by decide +kernel
theorem dX6_init_125 : decode cX6_init 125 = .ok (.if_icmp .ge 22, 3) := by decide +kernel
theorem dX6_init_128 : decode cX6_init 128 = .ok (.aload_n 0, 1) := by decide +kernel
theorem dX6_init_129 : decode cX6_init 129 = .ok (.getfield 11, 3) := by decide +kernel
theorem dX6_init_132 : decode cX6_init 132 = .ok (.iload_n 1, 1) := by decide +kernel
theorem dX6_init_133 : decode cX6_init 133 = .ok (.new 9, 3) := by decide +kernel
theorem dX6_init_136 : decode cX6_init 136 = .ok (.dup, 1) := by decide +kernel
theorem dX6_init_137 : decode cX6_init 137 = .ok (.invokespecial 82, 3) := by decide +kernel
theorem dX6_init_140 : decode cX6_init 140 = .ok (.aastore, 1) := by decide +kernel
theorem dX6_init_141 : decode cX6_init 141 = .ok (.iinc 1 1, 3) := by decide +kernel
theorem dX6_init_144 : decode cX6_init 144 = .ok (.goto (-22), 3) := by decide +kernel
theorem dX6_init_147 : decode cX6_init 147 = .ok (.iconst 0, 1) := by decide +kernel
theorem dX6_init_148 : decode cX6_init 148 = .ok (.istore_n 1, 1) := by decide +kernel
theorem dX6_init_149 : decode cX6_init 149 = .ok (.iload_n 1, 1) := by decide +kernel
theorem dX6_init_150 : decode cX6_init 150 = .ok (.bipush 20, 2) := by decide +kernel
theorem dX6_init_152 : decode cX6_init 152 = .ok (.if_icmp .ge 22, 3) := by decide +kernel
theorem dX6_init_155 : decode cX6_init 155 = .ok (.aload_n 0, 1) := by decide +kernel
theorem dX6_init_156 : decode cX6_init 156 = .ok (.getfield 17, 3) := by decide +kernel
theorem dX6_init_159 : decode cX6_init 159 = .ok (.iload_n 1, 1) := by decide +kernel
theorem dX6_init_160 : decode cX6_init 160 = .ok (.new 15, 3) := by decide +kernel
theorem dX6_init_163 : decode cX6_init 163 = .ok (.dup, 1) := by decide +kernel
theorem dX6_init_164 : decode cX6_init 164 = .ok (.invokespecial 83, 3) := by decide +kernel
theorem dX6_init_167 : decode cX6_init 167 = .ok (.aastore, 1) := by decide +kernel
theorem dX6_init_168 : decode cX6_init 168 = .ok (.iinc 1 1, 3) := by decide +kernel
theorem dX6_init_171 : decode cX6_init 171 = .ok (.goto (-22), 3) := by decide +kernel
theorem dX6_init_174 : decode cX6_init 174 = .ok (.iconst 0, 1) := by decide +kernel
theorem dX6_init_175 : decode cX6_init 175 = .ok (.istore_n 1, 1) := by decide +kernel
theorem dX6_init_176 : decode cX6_init 176 = .ok (.iload_n 1, 1) := by decide +kernel
theorem dX6_init_177 : decode cX6_init 177 = .ok (.iconst 3, 1) := by decide +kernel
theorem dX6_init_178 : decode cX6_init 178 = .ok (.if_icmp .ge 22, 3) := by decide +kernel
theorem dX6_init_181 : decode cX6_init 181 = .ok (.aload_n 0, 1) := by decide +kernel
theorem dX6_init_182 : decode cX6_init 182 = .ok (.getfield 23, 3) := by decide +kernel
theorem dX6_init_185 : decode cX6_init 185 = .ok (.iload_n 1, 1) := by decide +kernel
theorem dX6_init_186 : decode cX6_init 186 = .ok (.new 21, 3) := by decide +kernel
theorem dX6_init_189 : decode cX6_init 189 = .ok (.dup, 1) := by decide +kernel
theorem dX6_init_190 : decode cX6_init 190 = .ok (.invokespecial 84, 3) := by decide +kernel
theorem dX6_init_193 : decode cX6_init 193 = .ok (.aastore, 1) := by decide +kernel
theorem dX6_init_194 : decode cX6_init 194 = .ok (.iinc 1 1, 3) := by decide +kernel
theorem dX6_init_197 : decode cX6_init 197 = .ok (.goto (-21), 3) := by decide +kernel
theorem dX6_init_200 : decode cX6_init 200 = .ok (.iconst 0, 1) := by decide +kernel
theorem dX6_init_201 : decode cX6_init 201 = .ok (.istore_n 1, 1) := by decide +kernel
theorem dX6_init_202 : decode cX6_init 202 = .ok (.iload_n 1, 1) := by decide +kernel
theorem dX6_init_203 : decode cX6_init 203 = .ok (.iconst 5, 1) := by decide +kernel
theorem dX6_init_204 : decode cX6_init 204 = .ok (.if_icmp .ge 22, 3) := by decide +kernel
theorem dX6_init_207 : decode cX6_init 207 = .ok (.aload_n 0, 1) := by decide +kernel
theorem dX6_init_208 : decode cX6_init 208 = .ok (.getfield 29, 3) := by decide +kernel
theorem dX6_init_211 : decode cX6_init 211 = .ok (.iload_n 1, 1) := by decide +kernel
theorem dX6_init_212 : decode cX6_init 212 = .ok (.new 27, 3) := by decide +kernel
theorem dX6_init_215 : decode cX6_init 215 = .ok (.dup, 1) := by decide +kernel
theorem dX6_init_216 : decode cX6_init 216 = .ok (.invokespecial 85, 3) := by decide +kernel
theorem dX6_init_219 : decode cX6_init 219 = .ok (.aastore, 1) := by decide +kernel
theorem dX6_init_220 : decode cX6_init 220 = .ok (.iinc 1 1, 3) := by decide +kernel
theorem dX6_init_223 : decode cX6_init 223 = .ok (.goto (-21), 3) := by decide +kernel
theorem dX6_init_226 : decode cX6_init 226 = .ok (.iconst 0, 1) := by decide +kernel
theorem dX6_init_227 : decode cX6_init 227 = .ok (.istore_n 1, 1) := by decide +kernel
theorem dX6_init_228 : decode cX6_init 228 = .ok (.iload_n 1, 1) := by decide +kernel
theorem dX6_init_229 : decode cX6_init 229 = .ok (.bipush 12, 2) := by decide +kernel
theorem dX6_init_231 : decode cX6_init 231 = .ok (.if_icmp .ge 22, 3) := by decide +kernel
theorem dX6_init_234 : decode cX6_init 234 = .ok (.aload_n 0, 1) := by decide +kernel
theorem dX6_init_235 : decode cX6_init 235 = .ok (.getfield 35, 3) := by decide +kernel
theorem dX6_init_238 : decode cX6_init 238 = .ok (.iload_n 1, 1) := by decide +kernel
theorem dX6_init_239 : decode cX6_init 239 = .ok (.new 33, 3) := by decide +kernel
theorem dX6_init_242 : decode cX6_init 242 = .ok (.dup, 1) := by decide +kernel
theorem dX6_init_243 : decode cX6_init 243 = .ok (.invokespecial 39, 3) := by decide +kernel
theorem dX6_init_246 : decode cX6_init 246 = .ok (.aastore, 1) := by decide +kernel
theorem dX6_init_247 : decode cX6_init 247 = .ok (.iinc 1 1, 3) := by decide +kernel
theorem dX6_init_250 : decode cX6_init 250 = .ok (.goto (-22), 3) := by decide +kernel
theorem dX6_init_253 : decode cX6_init 253 = .ok (.return_, 1) := by decide +kernel
theorem dX6_farm_0 : decode cX6_farm 0 = .ok (.iload_n 1, 1) := by decide +kernel
theorem dX6_farm_1 : decode cX6_farm 1 = .ok (.bipush 10, 2) := by decide +kernel
theorem dX6_farm_3 : decode cX6_farm 3 = .ok (.if_icmp .lt 9, 3) := by decide +kernel
theorem dX6_farm_6 : decode cX6_farm 6 = .ok (.iload_n 1, 1) := by decide +kernel
theorem dX6_farm_7 : decode cX6_farm 7 = .ok (.bipush 22, 2) := by decide +kernel
theorem dX6_farm_9 : decode cX6_farm 9 = .ok (.if_icmp .le 13, 3) := by decide +kernel
theorem dX6_farm_12 : decode cX6_farm 12 = .ok (.new 86, 3) := by decide +kernel
theorem dX6_farm_15 : decode cX6_farm 15 = .ok (.dup, 1) := by decide +kernel
theorem dX6_farm_16 : decode cX6_farm 16 = .ok (.ldc 88, 2) := by decide +kernel
theorem dX6_farm_18 : decode cX6_farm 18 = .ok (.invokespecial 90, 3) := by decide +kernel
theorem dX6_farm_21 : decode cX6_farm 21 = .ok (.athrow, 1) := by decide +kernel
theorem dX6_farm_22 : decode cX6_farm 22 = .ok (.aload_n 0, 1) := by decide +kernel
theorem dX6_farm_23 : decode cX6_farm 23 = .ok (.getfield 48, 3) := by decide +kernel
theorem dX6_farm_26 : decode cX6_farm 26 = .ok (.bipush 6, 2) := by decide +kernel
theorem dX6_farm_28 : decode cX6_farm 28 = .ok (.if_icmp .lt 13, 3) := by decide +kernel
theorem dX6_farm_31 : decode cX6_farm 31 = .ok (.new 93, 3) := by decide +kernel
theorem dX6_farm_34 : decode cX6_farm 34 = .ok (.dup, 1) := by decide +kernel
theorem dX6_farm_35 : decode cX6_farm 35 = .ok (.ldc 95, 2) := by decide +kernel
theorem dX6_farm_37 : decode cX6_farm 37 = .ok (.invokespecial 97, 3) := by decide +kernel
theorem dX6_farm_40 : decode cX6_farm 40 = .ok (.athrow, 1) := by decide +kernel
theorem dX6_farm_41 : decode cX6_farm 41 = .ok (.aload_n 0, 1) := by decide +kernel
theorem dX6_farm_42 : decode cX6_farm 42 = .ok (.getfield 11, 3) := by decide +kernel
theorem dX6_farm_45 : decode cX6_farm 45 = .ok (.aload_n 0, 1) := by decide +kernel
theorem dX6_farm_46 : decode cX6_farm 46 = .ok (.getfield 48, 3) := by decide +kernel
theorem dX6_farm_49 : decode cX6_farm 49 = .ok (.aaload, 1) := by decide +kernel
theorem dX6_farm_50 : decode cX6_farm 50 = .ok (.iload_n 1, 1) := by decide +kernel
theorem dX6_farm_51 : decode cX6_farm 51 = .ok (.putfield 98, 3) := by decide +kernel
theorem dX6_farm_54 : decode cX6_farm 54 = .ok (.aload_n 0, 1) := by decide +kernel
theorem dX6_farm_55 : decode cX6_farm 55 = .ok (.dup, 1) := by decide +kernel
theorem dX6_farm_56 : decode cX6_farm 56 = .ok (.getfield 48, 3) := by decide +kernel
theorem dX6_farm_59 : decode cX6_farm 59 = .ok (.iconst 1, 1) := by decide +kernel
theorem dX6_farm_60 : decode cX6_farm 60 = .ok (.iadd, 1) := by decide +kernel
theorem dX6_farm_61 : decode cX6_farm 61 = .ok (.putfield 48, 3) := by decide +kernel
theorem dX6_farm_64 : decode cX6_farm 64 = .ok (.aload_n 0, 1) := by decide +kernel
theorem dX6_farm_65 : decode cX6_farm 65 = .ok (.getfield 48, 3) := by decide +kernel
theorem dX6_farm_68 : decode cX6_farm 68 = .ok (.iconst 1, 1) := by decide +kernel
theorem dX6_farm_69 : decode cX6_farm 69 = .ok (.isub, 1) := by decide +kernel
theorem dX6_farm_70 : decode cX6_farm 70 = .ok (.ireturn, 1) := by decide +kernel
theorem dX6_label_0 : decode cX6_label 0 = .ok (.aload_n 0, 1) := by decide +kernel
theorem dX6_label_1 : decode cX6_label 1 = .ok (.iload_n 1, 1) := by decide +kernel
theorem dX6_label_2 : decode cX6_label 2 = .ok (.invokevirtual 101, 3) := by decide +kernel
theorem dX6_label_5 : decode cX6_label 5 = .ok (.astore_n 3, 1) := by decide +kernel
theorem dX6_label_6 : decode cX6_label 6 = .ok (.iload_n 2, 1) := by decide +kernel
theorem dX6_label_7 : decode cX6_label 7 = .ok (.iconst (-1), 1) := by decide +kernel
theorem dX6_label_8 : decode cX6_label 8 = .ok (.if_icmp .lt 10, 3) := by decide +kernel
theorem dX6_label_11 : decode cX6_label 11 = .ok (.iload_n 2, 1) := by decide +kernel
theorem dX6_label_12 : decode cX6_label 12 = .ok (.sipush 900, 3) := by decide +kernel
theorem dX6_label_15 : decode cX6_label 15 = .ok (.if_icmp .le 13, 3) := by decide +kernel
theorem dX6_label_18 : decode cX6_label 18 = .ok (.new 86, 3) := by decide +kernel
theorem dX6_label_21 : decode cX6_label 21 = .ok (.dup, 1) := by decide +kernel
theorem dX6_label_22 : decode cX6_label 22 = .ok (.ldc 105, 2) := by decide +kernel
theorem dX6_label_24 : decode cX6_label 24 = .ok (.invokespecial 90, 3) := by decide +kernel
theorem dX6_label_27 : decode cX6_label 27 = .ok (.athrow, 1) := by decide +kernel
theorem dX6_label_28 : decode cX6_label 28 = .ok (.aload_n 3, 1) := by decide +kernel
theorem dX6_label_29 : decode cX6_label 29 = .ok (.getfield 107, 3) := by decide +kernel
theorem dX6_label_32 : decode cX6_label 32 = .ok (.istore 4, 2) := by decide +kernel
theorem dX6_label_34 : decode cX6_label 34 = .ok (.aload_n 3, 1) := by decide +kernel
theorem dX6_label_35 : decode cX6_label 35 = .ok (.iload_n 2, 1) := by decide +kernel
theorem dX6_label_36 : decode cX6_label 36 = .ok (.putfield 107, 3) := by decide +kernel
theorem dX6_label_39 : decode cX6_label 39 = .ok (.iload 4, 2) := by decide +kernel
theorem dX6_label_41 : decode cX6_label 41 = .ok (.ireturn, 1) := by decide +kernel
theorem dX6_price_0 : decode cX6_price 0 = .ok (.iload_n 1, 1) := by decide +kernel
theorem dX6_price_1 : decode cX6_price 1 = .ok (.iconst 1, 1) := by decide +kernel
theorem dX6_price_2 : decode cX6_price 2 = .ok (.if_icmp .lt 9, 3) := by decide +kernel
theorem dX6_price_5 : decode cX6_price 5 = .ok (.iload_n 1, 1) := by decide +kernel
theorem dX6_price_6 : decode cX6_price 6 = .ok (.bipush 50, 2) := by decide +kernel
theorem dX6_price_8 : decode cX6_price 8 = .ok (.if_icmp .le 13, 3) := by decide +kernel
theorem dX6_price_11 : decode cX6_price 11 = .ok (.new 86, 3) := by decide +kernel
theorem dX6_price_14 : decode cX6_price 14 = .ok (.dup, 1) := by decide +kernel
theorem dX6_price_15 : decode cX6_price 15 = .ok (.ldc 110, 2) := by decide +kernel
theorem dX6_price_17 : decode cX6_price 17 = .ok (.invokespecial 90, 3) := by decide +kernel
theorem dX6_price_20 : decode cX6_price 20 = .ok (.athrow, 1) := by decide +kernel
theorem dX6_price_21 : decode cX6_price 21 = .ok (.aload_n 0, 1) := by decide +kernel
theorem dX6_price_22 : decode cX6_price 22 = .ok (.getfield 67, 3) := by decide +kernel
theorem dX6_price_25 : decode cX6_price 25 = .ok (.istore_n 2, 1) := by decide +kernel
theorem dX6_price_26 : decode cX6_price 26 = .ok (.aload_n 0, 1) := by decide +kernel
theorem dX6_price_27 : decode cX6_price 27 = .ok (.iload_n 1, 1) := by decide +kernel
theorem dX6_price_28 : decode cX6_price 28 = .ok (.putfield 67, 3) := by decide +kernel
theorem dX6_price_31 : decode cX6_price 31 = .ok (.iload_n 2, 1) := by decide +kernel
theorem dX6_price_32 : decode cX6_price 32 = .ok (.ireturn, 1) := by decide +kernel
theorem dX6_bring_0 : decode cX6_bring 0 = .ok (.aload_n 0, 1) := by decide +kernel
theorem dX6_bring_1 : decode cX6_bring 1 = .ok (.iload_n 1, 1) := by decide +kernel
theorem dX6_bring_2 : decode cX6_bring 2 = .ok (.invokevirtual 101, 3) := by decide +kernel
theorem dX6_bring_5 : decode cX6_bring 5 = .ok (.astore 4, 2) := by decide +kernel
theorem dX6_bring_7 : decode cX6_bring 7 = .ok (.iload_n 2, 1) := by decide +kernel
theorem dX6_bring_8 : decode cX6_bring 8 = .ok (.iconst 1, 1) := by decide +kernel
theorem dX6_bring_9 : decode cX6_bring 9 = .ok (.if_icmp .lt 20, 3) := by decide +kernel
theorem dX6_bring_12 : decode cX6_bring 12 = .ok (.iload_n 2, 1) := by decide +kernel
theorem dX6_bring_13 : decode cX6_bring 13 = .ok (.sipush 200, 3) := by decide +kernel
theorem dX6_bring_16 : decode cX6_bring 16 = .ok (.if_icmp .gt 13, 3) := by decide +kernel
theorem dX6_bring_19 : decode cX6_bring 19 = .ok (.iload_n 3, 1) := by decide +kernel
theorem dX6_bring_20 : decode cX6_bring 20 = .ok (.ifCond .lt 9, 3) := by decide +kernel
theorem dX6_bring_23 : decode cX6_bring 23 = .ok (.iload_n 3, 1) := by decide +kernel
theorem dX6_bring_24 : decode cX6_bring 24 = .ok (.bipush 100, 2) := by decide +kernel
theorem dX6_bring_26 : decode cX6_bring 26 = .ok (.if_icmp .le 13, 3) := by decide +kernel
theorem dX6_bring_29 : decode cX6_bring 29 = .ok (.new 86, 3) := by decide +kernel
theorem dX6_bring_32 : decode cX6_bring 32 = .ok (.dup, 1) := by decide +kernel
theorem dX6_bring_33 : decode cX6_bring 33 = .ok (.ldc 112, 2) := by decide +kernel
theorem dX6_bring_35 : decode cX6_bring 35 = .ok (.invokespecial 90, 3) := by decide +kernel
theorem dX6_bring_38 : decode cX6_bring 38 = .ok (.athrow, 1) := by decide +kernel
theorem dX6_bring_39 : decode cX6_bring 39 = .ok (.aload_n 0, 1) := by decide +kernel
theorem dX6_bring_40 : decode cX6_bring 40 = .ok (.getfield 52, 3) := by decide +kernel
theorem dX6_bring_43 : decode cX6_bring 43 = .ok (.bipush 20, 2) := by decide +kernel
theorem dX6_bring_45 : decode cX6_bring 45 = .ok (.if_icmp .lt 13, 3) := by decide +kernel
theorem dX6_bring_48 : decode cX6_bring 48 = .ok (.new 93, 3) := by decide +kernel
theorem dX6_bring_51 : decode cX6_bring 51 = .ok (.dup, 1) := by decide +kernel
theorem dX6_bring_52 : decode cX6_bring 52 = .ok (.ldc 114, 2) := by decide +kernel
theorem dX6_bring_54 : decode cX6_bring 54 = .ok (.invokespecial 97, 3) := by decide +kernel
theorem dX6_bring_57 : decode cX6_bring 57 = .ok (.athrow, 1) := by decide +kernel
theorem dX6_bring_58 : decode cX6_bring 58 = .ok (.iload_n 2, 1) := by decide +kernel
theorem dX6_bring_59 : decode cX6_bring 59 = .ok (.bipush 100, 2) := by decide +kernel
theorem dX6_bring_61 : decode cX6_bring 61 = .ok (.iload_n 3, 1) := by decide +kernel
theorem dX6_bring_62 : decode cX6_bring 62 = .ok (.isub, 1) := by decide +kernel
theorem dX6_bring_63 : decode cX6_bring 63 = .ok (.imul, 1) := by decide +kernel
theorem dX6_bring_64 : decode cX6_bring 64 = .ok (.sipush 200, 3) := by decide +kernel
theorem dX6_bring_67 : decode cX6_bring 67 = .ok (.idiv, 1) := by decide +kernel
theorem dX6_bring_68 : decode cX6_bring 68 = .ok (.istore 5, 2) := by decide +kernel
theorem dX6_bring_70 : decode cX6_bring 70 = .ok (.iload_n 2, 1) := by decide +kernel
theorem dX6_bring_71 : decode cX6_bring 71 = .ok (.iload 5, 2) := by decide +kernel
theorem dX6_bring_73 : decode cX6_bring 73 = .ok (.isub, 1) := by decide +kernel
theorem dX6_bring_74 : decode cX6_bring 74 = .ok (.istore 6, 2) := by decide +kernel
theorem dX6_bring_76 : decode cX6_bring 76 = .ok (.aload_n 0, 1) := by decide +kernel
theorem dX6_bring_77 : decode cX6_bring 77 = .ok (.getfield 17, 3) := by decide +kernel
theorem dX6_bring_80 : decode cX6_bring 80 = .ok (.aload_n 0, 1) := by decide +kernel
theorem dX6_bring_81 : decode cX6_bring 81 = .ok (.getfield 52, 3) := by decide +kernel
theorem dX6_bring_84 : decode cX6_bring 84 = .ok (.aaload, 1) := by decide +kernel
theorem dX6_bring_85 : decode cX6_bring 85 = .ok (.iload_n 1, 1) := by decide +kernel
theorem dX6_bring_86 : decode cX6_bring 86 = .ok (.iload 6, 2) := by decide +kernel
theorem dX6_bring_88 : decode cX6_bring 88 = .ok (.iload_n 3, 1) := by decide +kernel
theorem dX6_bring_89 : decode cX6_bring 89 = .ok (.aload 4, 2) := by decide +kernel
theorem dX6_bring_91 : decode cX6_bring 91 = .ok (.getfield 107, 3) := by decide +kernel
theorem dX6_bring_94 : decode cX6_bring 94 = .ok (.aload_n 0, 1) := by decide +kernel
theorem dX6_bring_95 : decode cX6_bring 95 = .ok (.getfield 61, 3) := by decide +kernel
theorem dX6_bring_98 : decode cX6_bring 98 = .ok (.bipush 24, 2) := by decide +kernel
theorem dX6_bring_100 : decode cX6_bring 100 = .ok (.idiv, 1) := by decide +kernel
theorem dX6_bring_101 : decode cX6_bring 101 = .ok (.if_icmp .lt 7, 3) := by decide +kernel
theorem dX6_bring_104 : decode cX6_bring 104 = .ok (.iconst 1, 1) := by decide +kernel
theorem dX6_bring_105 : decode cX6_bring 105 = .ok (.goto 4, 3) := by decide +kernel
theorem dX6_bring_108 : decode cX6_bring 108 = .ok (.iconst 0, 1) := by decide +kernel
theorem dX6_bring_109 : decode cX6_bring 109 = .ok (.invokevirtual 116, 3) := by decide +kernel
theorem dX6_bring_112 : decode cX6_bring 112 = .ok (.aload_n 0, 1) := by decide +kernel
theorem dX6_bring_113 : decode cX6_bring 113 = .ok (.dup, 1) := by decide +kernel
theorem dX6_bring_114 : decode cX6_bring 114 = .ok (.getfield 52, 3) := by decide +kernel
theorem dX6_bring_117 : decode cX6_bring 117 = .ok (.iconst 1, 1) := by decide +kernel
theorem dX6_bring_118 : decode cX6_bring 118 = .ok (.iadd, 1) := by decide +kernel
theorem dX6_bring_119 : decode cX6_bring 119 = .ok (.putfield 52, 3) := by decide +kernel
theorem dX6_bring_122 : decode cX6_bring 122 = .ok (.aload_n 0, 1) := by decide +kernel
theorem dX6_bring_123 : decode cX6_bring 123 = .ok (.dup, 1) := by decide +kernel
theorem dX6_bring_124 : decode cX6_bring 124 = .ok (.getfield 70, 3) := by decide +kernel
theorem dX6_bring_127 : decode cX6_bring 127 = .ok (.iload 5, 2) := by decide +kernel
theorem dX6_bring_129 : decode cX6_bring 129 = .ok (.iadd, 1) := by decide +kernel
theorem dX6_bring_130 : decode cX6_bring 130 = .ok (.putfield 70, 3) := by decide +kernel
theorem dX6_bring_133 : decode cX6_bring 133 = .ok (.aload 4, 2) := by decide +kernel
theorem dX6_bring_135 : decode cX6_bring 135 = .ok (.dup, 1) := by decide +kernel
theorem dX6_bring_136 : decode cX6_bring 136 = .ok (.getfield 120, 3) := by decide +kernel
theorem dX6_bring_139 : decode cX6_bring 139 = .ok (.iload 6, 2) := by decide +kernel
theorem dX6_bring_141 : decode cX6_bring 141 = .ok (.iadd, 1) := by decide +kernel
theorem dX6_bring_142 : decode cX6_bring 142 = .ok (.putfield 120, 3) := by decide +kernel
theorem dX6_bring_145 : decode cX6_bring 145 = .ok (.aload 4, 2) := by decide +kernel
theorem dX6_bring_147 : decode cX6_bring 147 = .ok (.dup, 1) := by decide +kernel
theorem dX6_bring_148 : decode cX6_bring 148 = .ok (.getfield 123, 3) := by decide +kernel
theorem dX6_bring_151 : decode cX6_bring 151 = .ok (.iload 6, 2) := by decide +kernel
theorem dX6_bring_153 : decode cX6_bring 153 = .ok (.aload_n 0, 1) := by decide +kernel
theorem dX6_bring_154 : decode cX6_bring 154 = .ok (.getfield 67, 3) := by decide +kernel
theorem dX6_bring_157 : decode cX6_bring 157 = .ok (.imul, 1) := by decide +kernel
theorem dX6_bring_158 : decode cX6_bring 158 = .ok (.iadd, 1) := by decide +kernel
theorem dX6_bring_159 : decode cX6_bring 159 = .ok (.putfield 123, 3) := by decide +kernel
theorem dX6_bring_162 : decode cX6_bring 162 = .ok (.aload_n 0, 1) := by decide +kernel
theorem dX6_bring_163 : decode cX6_bring 163 = .ok (.dup, 1) := by decide +kernel
theorem dX6_bring_164 : decode cX6_bring 164 = .ok (.getfield 64, 3) := by decide +kernel
theorem dX6_bring_167 : decode cX6_bring 167 = .ok (.iload 6, 2) := by decide +kernel
theorem dX6_bring_169 : decode cX6_bring 169 = .ok (.aload_n 0, 1) := by decide +kernel
theorem dX6_bring_170 : decode cX6_bring 170 = .ok (.getfield 67, 3) := by decide +kernel
theorem dX6_bring_173 : decode cX6_bring 173 = .ok (.imul, 1) := by decide +kernel
theorem dX6_bring_174 : decode cX6_bring 174 = .ok (.isub, 1) := by decide +kernel
theorem dX6_bring_175 : decode cX6_bring 175 = .ok (.putfield 64, 3) := by decide +kernel
theorem dX6_bring_178 : decode cX6_bring 178 = .ok (.aload_n 0, 1) := by decide +kernel
theorem dX6_bring_179 : decode cX6_bring 179 = .ok (.getfield 52, 3) := by decide +kernel
theorem dX6_bring_182 : decode cX6_bring 182 = .ok (.iconst 1, 1) := by decide +kernel
theorem dX6_bring_183 : decode cX6_bring 183 = .ok (.isub, 1) := by decide +kernel
theorem dX6_bring_184 : decode cX6_bring 184 = .ok (.ireturn, 1) := by decide +kernel
theorem dX6_pass_0 : decode cX6_pass 0 = .ok (.iload_n 1, 1) := by decide +kernel
theorem dX6_pass_1 : decode cX6_pass 1 = .ok (.iconst 1, 1) := by decide +kernel
theorem dX6_pass_2 : decode cX6_pass 2 = .ok (.if_icmp .lt 29, 3) := by decide +kernel
theorem dX6_pass_5 : decode cX6_pass 5 = .ok (.iload_n 1, 1) := by decide +kernel
theorem dX6_pass_6 : decode cX6_pass 6 = .ok (.bipush 100, 2) := by decide +kernel
theorem dX6_pass_8 : decode cX6_pass 8 = .ok (.if_icmp .gt 23, 3) := by decide +kernel
theorem dX6_pass_11 : decode cX6_pass 11 = .ok (.iload_n 2, 1) := by decide +kernel
theorem dX6_pass_12 : decode cX6_pass 12 = .ok (.ifCond .lt 19, 3) := by decide +kernel
theorem dX6_pass_15 : decode cX6_pass 15 = .ok (.iload_n 2, 1) := by decide +kernel
theorem dX6_pass_16 : decode cX6_pass 16 = .ok (.bipush 40, 2) := by decide +kernel
theorem dX6_pass_18 : decode cX6_pass 18 = .ok (.if_icmp .gt 13, 3) := by decide +kernel
theorem dX6_pass_21 : decode cX6_pass 21 = .ok (.iload_n 3, 1) := by decide +kernel
theorem dX6_pass_22 : decode cX6_pass 22 = .ok (.ifCond .lt 9, 3) := by decide +kernel
theorem dX6_pass_25 : decode cX6_pass 25 = .ok (.iload_n 3, 1) := by decide +kernel
theorem dX6_pass_26 : decode cX6_pass 26 = .ok (.bipush 20, 2) := by decide +kernel
theorem dX6_pass_28 : decode cX6_pass 28 = .ok (.if_icmp .le 13, 3) := by decide +kernel
theorem dX6_pass_31 : decode cX6_pass 31 = .ok (.new 86, 3) := by decide +kernel
theorem dX6_pass_34 : decode cX6_pass 34 = .ok (.dup, 1) := by decide +kernel
theorem dX6_pass_35 : decode cX6_pass 35 = .ok (.ldc 126, 2) := by decide +kernel
theorem dX6_pass_37 : decode cX6_pass 37 = .ok (.invokespecial 90, 3) := by decide +kernel
theorem dX6_pass_40 : decode cX6_pass 40 = .ok (.athrow, 1) := by decide +kernel
theorem dX6_pass_41 : decode cX6_pass 41 = .ok (.aload_n 0, 1) := by decide +kernel
theorem dX6_pass_42 : decode cX6_pass 42 = .ok (.getfield 61, 3) := by decide +kernel
theorem dX6_pass_45 : decode cX6_pass 45 = .ok (.iload_n 1, 1) := by decide +kernel
theorem dX6_pass_46 : decode cX6_pass 46 = .ok (.iadd, 1) := by decide +kernel
theorem dX6_pass_47 : decode cX6_pass 47 = .ok (.sipush 20000, 3) := by decide +kernel
theorem dX6_pass_50 : decode cX6_pass 50 = .ok (.if_icmp .le 13, 3) := by decide +kernel
theorem dX6_pass_53 : decode cX6_pass 53 = .ok (.new 93, 3) := by decide +kernel
theorem dX6_pass_56 : decode cX6_pass 56 = .ok (.dup, 1) := by decide +kernel
theorem dX6_pass_57 : decode cX6_pass 57 = .ok (.ldc 128, 2) := by decide +kernel
theorem dX6_pass_59 : decode cX6_pass 59 = .ok (.invokespecial 97, 3) := by decide +kernel
theorem dX6_pass_62 : decode cX6_pass 62 = .ok (.athrow, 1) := by decide +kernel
theorem dX6_pass_63 : decode cX6_pass 63 = .ok (.iconst 0, 1) := by decide +kernel
theorem dX6_pass_64 : decode cX6_pass 64 = .ok (.istore 4, 2) := by decide +kernel
theorem dX6_pass_66 : decode cX6_pass 66 = .ok (.iconst 0, 1) := by decide +kernel
theorem dX6_pass_67 : decode cX6_pass 67 = .ok (.istore 5, 2) := by decide +kernel
theorem dX6_pass_69 : decode cX6_pass 69 = .ok (.iload 5, 2) := by decide +kernel
theorem dX6_pass_71 : decode cX6_pass 71 = .ok (.iload_n 1, 1) := by decide +kernel
theorem dX6_pass_72 : decode cX6_pass 72 = .ok (.if_icmp .ge 20, 3) := by decide +kernel
theorem dX6_pass_75 : decode cX6_pass 75 = .ok (.iload 4, 2) := by decide +kernel
theorem dX6_pass_77 : decode cX6_pass 77 = .ok (.aload_n 0, 1) := by decide +kernel
theorem dX6_pass_78 : decode cX6_pass 78 = .ok (.iload_n 2, 1) := by decide +kernel
theorem dX6_pass_79 : decode cX6_pass 79 = .ok (.iload_n 3, 1) := by decide +kernel
theorem dX6_pass_80 : decode cX6_pass 80 = .ok (.invokevirtual 130, 3) := by decide +kernel
theorem dX6_pass_83 : decode cX6_pass 83 = .ok (.iadd, 1) := by decide +kernel
theorem dX6_pass_84 : decode cX6_pass 84 = .ok (.istore 4, 2) := by decide +kernel
theorem dX6_pass_86 : decode cX6_pass 86 = .ok (.iinc 5 1, 3) := by decide +kernel
theorem dX6_pass_89 : decode cX6_pass 89 = .ok (.goto (-20), 3) := by decide +kernel
theorem dX6_pass_92 : decode cX6_pass 92 = .ok (.iload 4, 2) := by decide +kernel
theorem dX6_pass_94 : decode cX6_pass 94 = .ok (.ireturn, 1) := by decide +kernel
theorem dX6_bed_0 : decode cX6_bed 0 = .ok (.iload_n 1, 1) := by decide +kernel
theorem dX6_bed_1 : decode cX6_bed 1 = .ok (.iconst 5, 1) := by decide +kernel
theorem dX6_bed_2 : decode cX6_bed 2 = .ok (.if_icmp .lt 9, 3) := by decide +kernel
theorem dX6_bed_5 : decode cX6_bed 5 = .ok (.iload_n 1, 1) := by decide +kernel
theorem dX6_bed_6 : decode cX6_bed 6 = .ok (.bipush 40, 2) := by decide +kernel
theorem dX6_bed_8 : decode cX6_bed 8 = .ok (.if_icmp .le 13, 3) := by decide +kernel
theorem dX6_bed_11 : decode cX6_bed 11 = .ok (.new 86, 3) := by decide +kernel
theorem dX6_bed_14 : decode cX6_bed 14 = .ok (.dup, 1) := by decide +kernel
theorem dX6_bed_15 : decode cX6_bed 15 = .ok (.ldc 134, 2) := by decide +kernel
theorem dX6_bed_17 : decode cX6_bed 17 = .ok (.invokespecial 90, 3) := by decide +kernel
theorem dX6_bed_20 : decode cX6_bed 20 = .ok (.athrow, 1) := by decide +kernel
theorem dX6_bed_21 : decode cX6_bed 21 = .ok (.aload_n 0, 1) := by decide +kernel
theorem dX6_bed_22 : decode cX6_bed 22 = .ok (.getfield 55, 3) := by decide +kernel
theorem dX6_bed_25 : decode cX6_bed 25 = .ok (.iconst 5, 1) := by decide +kernel
theorem dX6_bed_26 : decode cX6_bed 26 = .ok (.if_icmp .lt 13, 3) := by decide +kernel
theorem dX6_bed_29 : decode cX6_bed 29 = .ok (.new 93, 3) := by decide +kernel
theorem dX6_bed_32 : decode cX6_bed 32 = .ok (.dup, 1) := by decide +kernel
theorem dX6_bed_33 : decode cX6_bed 33 = .ok (.ldc 136, 2) := by decide +kernel
theorem dX6_bed_35 : decode cX6_bed 35 = .ok (.invokespecial 97, 3) := by decide +kernel
theorem dX6_bed_38 : decode cX6_bed 38 = .ok (.athrow, 1) := by decide +kernel
theorem dX6_bed_39 : decode cX6_bed 39 = .ok (.aload_n 0, 1) := by decide +kernel
theorem dX6_bed_40 : decode cX6_bed 40 = .ok (.getfield 29, 3) := by decide +kernel
theorem dX6_bed_43 : decode cX6_bed 43 = .ok (.aload_n 0, 1) := by decide +kernel
theorem dX6_bed_44 : decode cX6_bed 44 = .ok (.getfield 55, 3) := by decide +kernel
theorem dX6_bed_47 : decode cX6_bed 47 = .ok (.aaload, 1) := by decide +kernel
theorem dX6_bed_48 : decode cX6_bed 48 = .ok (.iload_n 1, 1) := by decide +kernel
theorem dX6_bed_49 : decode cX6_bed 49 = .ok (.putfield 138, 3) := by decide +kernel
theorem dX6_bed_52 : decode cX6_bed 52 = .ok (.aload_n 0, 1) := by decide +kernel
theorem dX6_bed_53 : decode cX6_bed 53 = .ok (.dup, 1) := by decide +kernel
theorem dX6_bed_54 : decode cX6_bed 54 = .ok (.getfield 55, 3) := by decide +kernel
theorem dX6_bed_57 : decode cX6_bed 57 = .ok (.iconst 1, 1) := by decide +kernel
theorem dX6_bed_58 : decode cX6_bed 58 = .ok (.iadd, 1) := by decide +kernel
theorem dX6_bed_59 : decode cX6_bed 59 = .ok (.putfield 55, 3) := by decide +kernel
theorem dX6_bed_62 : decode cX6_bed 62 = .ok (.aload_n 0, 1) := by decide +kernel
theorem dX6_bed_63 : decode cX6_bed 63 = .ok (.getfield 55, 3) := by decide +kernel
theorem dX6_bed_66 : decode cX6_bed 66 = .ok (.iconst 1, 1) := by decide +kernel
theorem dX6_bed_67 : decode cX6_bed 67 = .ok (.isub, 1) := by decide +kernel
theorem dX6_bed_68 : decode cX6_bed 68 = .ok (.ireturn, 1) := by decide +kernel
theorem dX6_pulp_0 : decode cX6_pulp 0 = .ok (.aload_n 0, 1) := by decide +kernel
theorem dX6_pulp_1 : decode cX6_pulp 1 = .ok (.iload_n 1, 1) := by decide +kernel
theorem dX6_pulp_2 : decode cX6_pulp 2 = .ok (.invokevirtual 141, 3) := by decide +kernel
theorem dX6_pulp_5 : decode cX6_pulp 5 = .ok (.astore_n 3, 1) := by decide +kernel
theorem dX6_pulp_6 : decode cX6_pulp 6 = .ok (.aload_n 0, 1) := by decide +kernel
theorem dX6_pulp_7 : decode cX6_pulp 7 = .ok (.iload_n 2, 1) := by decide +kernel
theorem dX6_pulp_8 : decode cX6_pulp 8 = .ok (.invokevirtual 145, 3) := by decide +kernel
theorem dX6_pulp_11 : decode cX6_pulp 11 = .ok (.astore 4, 2) := by decide +kernel
theorem dX6_pulp_13 : decode cX6_pulp 13 = .ok (.aload_n 3, 1) := by decide +kernel
theorem dX6_pulp_14 : decode cX6_pulp 14 = .ok (.getfield 149, 3) := by decide +kernel
theorem dX6_pulp_17 : decode cX6_pulp 17 = .ok (.iconst 2, 1) := by decide +kernel
theorem dX6_pulp_18 : decode cX6_pulp 18 = .ok (.idiv, 1) := by decide +kernel
theorem dX6_pulp_19 : decode cX6_pulp 19 = .ok (.istore 5, 2) := by decide +kernel
theorem dX6_pulp_21 : decode cX6_pulp 21 = .ok (.aload_n 3, 1) := by decide +kernel
theorem dX6_pulp_22 : decode cX6_pulp 22 = .ok (.getfield 152, 3) := by decide +kernel
theorem dX6_pulp_25 : decode cX6_pulp 25 = .ok (.ifCond .ne 18, 3) := by decide +kernel
theorem dX6_pulp_28 : decode cX6_pulp 28 = .ok (.iload 5, 2) := by decide +kernel
theorem dX6_pulp_30 : decode cX6_pulp 30 = .ok (.ifCond .eq 13, 3) := by decide +kernel
theorem dX6_pulp_33 : decode cX6_pulp 33 = .ok (.aload 4, 2) := by decide +kernel
theorem dX6_pulp_35 : decode cX6_pulp 35 = .ok (.iload 5, 2) := by decide +kernel
theorem dX6_pulp_37 : decode cX6_pulp 37 = .ok (.invokevirtual 155, 3) := by decide +kernel
theorem dX6_pulp_40 : decode cX6_pulp 40 = .ok (.ifCond .ne 13, 3) := by decide +kernel
theorem dX6_pulp_43 : decode cX6_pulp 43 = .ok (.new 93, 3) := by decide +kernel
theorem dX6_pulp_46 : decode cX6_pulp 46 = .ok (.dup, 1) := by decide +kernel
theorem dX6_pulp_47 : decode cX6_pulp 47 = .ok (.ldc 159, 2) := by decide +kernel
theorem dX6_pulp_49 : decode cX6_pulp 49 = .ok (.invokespecial 97, 3) := by decide +kernel
theorem dX6_pulp_52 : decode cX6_pulp 52 = .ok (.athrow, 1) := by decide +kernel
theorem dX6_pulp_53 : decode cX6_pulp 53 = .ok (.aload_n 3, 1) := by decide +kernel
theorem dX6_pulp_54 : decode cX6_pulp 54 = .ok (.iconst 1, 1) := by decide +kernel
theorem dX6_pulp_55 : decode cX6_pulp 55 = .ok (.putfield 152, 3) := by decide +kernel
theorem dX6_pulp_58 : decode cX6_pulp 58 = .ok (.aload 4, 2) := by decide +kernel
theorem dX6_pulp_60 : decode cX6_pulp 60 = .ok (.getfield 161, 3) := by decide +kernel
theorem dX6_pulp_63 : decode cX6_pulp 63 = .ok (.aload_n 3, 1) := by decide +kernel
theorem dX6_pulp_64 : decode cX6_pulp 64 = .ok (.iload 5, 2) := by decide +kernel
theorem dX6_pulp_66 : decode cX6_pulp 66 = .ok (.invokevirtual 165, 3) := by decide +kernel
theorem dX6_pulp_69 : decode cX6_pulp 69 = .ok (.aload_n 0, 1) := by decide +kernel
theorem dX6_pulp_70 : decode cX6_pulp 70 = .ok (.dup, 1) := by decide +kernel
theorem dX6_pulp_71 : decode cX6_pulp 71 = .ok (.getfield 76, 3) := by decide +kernel
theorem dX6_pulp_74 : decode cX6_pulp 74 = .ok (.aload_n 3, 1) := by decide +kernel
theorem dX6_pulp_75 : decode cX6_pulp 75 = .ok (.getfield 149, 3) := by decide +kernel
theorem dX6_pulp_78 : decode cX6_pulp 78 = .ok (.iload 5, 2) := by decide +kernel
theorem dX6_pulp_80 : decode cX6_pulp 80 = .ok (.isub, 1) := by decide +kernel
theorem dX6_pulp_81 : decode cX6_pulp 81 = .ok (.iadd, 1) := by decide +kernel
theorem dX6_pulp_82 : decode cX6_pulp 82 = .ok (.putfield 76, 3) := by decide +kernel
theorem dX6_pulp_85 : decode cX6_pulp 85 = .ok (.aload 4, 2) := by decide +kernel
theorem dX6_pulp_87 : decode cX6_pulp 87 = .ok (.getfield 161, 3) := by decide +kernel
theorem dX6_pulp_90 : decode cX6_pulp 90 = .ok (.getfield 171, 3) := by decide +kernel
theorem dX6_pulp_93 : decode cX6_pulp 93 = .ok (.ireturn, 1) := by decide +kernel
theorem dX6_wash_0 : decode cX6_wash 0 = .ok (.aload_n 0, 1) := by decide +kernel
theorem dX6_wash_1 : decode cX6_wash 1 = .ok (.iload_n 1, 1) := by decide +kernel
theorem dX6_wash_2 : decode cX6_wash 2 = .ok (.invokevirtual 145, 3) := by decide +kernel
theorem dX6_wash_5 : decode cX6_wash 5 = .ok (.astore 4, 2) := by decide +kernel
theorem dX6_wash_7 : decode cX6_wash 7 = .ok (.aload_n 0, 1) := by decide +kernel
theorem dX6_wash_8 : decode cX6_wash 8 = .ok (.iload_n 2, 1) := by decide +kernel
theorem dX6_wash_9 : decode cX6_wash 9 = .ok (.invokevirtual 172, 3) := by decide +kernel
theorem dX6_wash_12 : decode cX6_wash 12 = .ok (.astore 5, 2) := by decide +kernel
theorem dX6_wash_14 : decode cX6_wash 14 = .ok (.aload 4, 2) := by decide +kernel
theorem dX6_wash_16 : decode cX6_wash 16 = .ok (.getfield 161, 3) := by decide +kernel
theorem dX6_wash_19 : decode cX6_wash 19 = .ok (.getfield 171, 3) := by decide +kernel
theorem dX6_wash_22 : decode cX6_wash 22 = .ok (.istore 6, 2) := by decide +kernel
theorem dX6_wash_24 : decode cX6_wash 24 = .ok (.aload 4, 2) := by decide +kernel
theorem dX6_wash_26 : decode cX6_wash 26 = .ok (.getfield 161, 3) := by decide +kernel
theorem dX6_wash_29 : decode cX6_wash 29 = .ok (.invokevirtual 176, 3) := by decide +kernel
theorem dX6_wash_32 : decode cX6_wash 32 = .ok (.ifCond .ne 27, 3) := by decide +kernel
theorem dX6_wash_35 : decode cX6_wash 35 = .ok (.aload 5, 2) := by decide +kernel
theorem dX6_wash_37 : decode cX6_wash 37 = .ok (.iload 6, 2) := by decide +kernel
theorem dX6_wash_39 : decode cX6_wash 39 = .ok (.invokevirtual 180, 3) := by decide +kernel
theorem dX6_wash_42 : decode cX6_wash 42 = .ok (.ifCond .eq 17, 3) := by decide +kernel
theorem dX6_wash_45 : decode cX6_wash 45 = .ok (.iload_n 3, 1) := by decide +kernel
theorem dX6_wash_46 : decode cX6_wash 46 = .ok (.ifCond .eq 23, 3) := by decide +kernel
theorem dX6_wash_49 : decode cX6_wash 49 = .ok (.aload 4, 2) := by decide +kernel
theorem dX6_wash_51 : decode cX6_wash 51 = .ok (.getfield 181, 3) := by decide +kernel
theorem dX6_wash_54 : decode cX6_wash 54 = .ok (.bipush 30, 2) := by decide +kernel
theorem dX6_wash_56 : decode cX6_wash 56 = .ok (.if_icmp .lt 13, 3) := by decide +kernel
theorem dX6_wash_59 : decode cX6_wash 59 = .ok (.new 93, 3) := by decide +kernel
theorem dX6_wash_62 : decode cX6_wash 62 = .ok (.dup, 1) := by decide +kernel
theorem dX6_wash_63 : decode cX6_wash 63 = .ok (.ldc 184, 2) := by decide +kernel
theorem dX6_wash_65 : decode cX6_wash 65 = .ok (.invokespecial 97, 3) := by decide +kernel
theorem dX6_wash_68 : decode cX6_wash 68 = .ok (.athrow, 1) := by decide +kernel
theorem dX6_wash_69 : decode cX6_wash 69 = .ok (.aload 5, 2) := by decide +kernel
theorem dX6_wash_71 : decode cX6_wash 71 = .ok (.iload_n 3, 1) := by decide +kernel
theorem dX6_wash_72 : decode cX6_wash 72 = .ok (.ifCond .eq 7, 3) := by decide +kernel
theorem dX6_wash_75 : decode cX6_wash 75 = .ok (.iconst 1, 1) := by decide +kernel
theorem dX6_wash_76 : decode cX6_wash 76 = .ok (.goto 4, 3) := by decide +kernel
theorem dX6_wash_79 : decode cX6_wash 79 = .ok (.iconst 0, 1) := by decide +kernel
theorem dX6_wash_80 : decode cX6_wash 80 = .ok (.iload_n 3, 1) := by decide +kernel
theorem dX6_wash_81 : decode cX6_wash 81 = .ok (.ifCond .eq 9, 3) := by decide +kernel
theorem dX6_wash_84 : decode cX6_wash 84 = .ok (.sipush 570, 3) := by decide +kernel
theorem dX6_wash_87 : decode cX6_wash 87 = .ok (.goto 6, 3) := by decide +kernel
theorem dX6_wash_90 : decode cX6_wash 90 = .ok (.sipush 550, 3) := by decide +kernel
theorem dX6_wash_93 : decode cX6_wash 93 = .ok (.aload 4, 2) := by decide +kernel
theorem dX6_wash_95 : decode cX6_wash 95 = .ok (.getfield 181, 3) := by decide +kernel
theorem dX6_wash_98 : decode cX6_wash 98 = .ok (.invokevirtual 186, 3) := by decide +kernel
theorem dX6_wash_101 : decode cX6_wash 101 = .ok (.aload 5, 2) := by decide +kernel
theorem dX6_wash_103 : decode cX6_wash 103 = .ok (.getfield 190, 3) := by decide +kernel
theorem dX6_wash_106 : decode cX6_wash 106 = .ok (.aload 4, 2) := by decide +kernel
theorem dX6_wash_108 : decode cX6_wash 108 = .ok (.getfield 161, 3) := by decide +kernel
theorem dX6_wash_111 : decode cX6_wash 111 = .ok (.invokevirtual 191, 3) := by decide +kernel
theorem dX6_wash_114 : decode cX6_wash 114 = .ok (.aload 4, 2) := by decide +kernel
theorem dX6_wash_116 : decode cX6_wash 116 = .ok (.invokevirtual 195, 3) := by decide +kernel
theorem dX6_wash_119 : decode cX6_wash 119 = .ok (.iload_n 3, 1) := by decide +kernel
theorem dX6_wash_120 : decode cX6_wash 120 = .ok (.ifCond .ne 16, 3) := by decide +kernel
theorem dX6_wash_123 : decode cX6_wash 123 = .ok (.aload_n 0, 1) := by decide +kernel
theorem dX6_wash_124 : decode cX6_wash 124 = .ok (.dup, 1) := by decide +kernel
theorem dX6_wash_125 : decode cX6_wash 125 = .ok (.getfield 79, 3) := by decide +kernel
theorem dX6_wash_128 : decode cX6_wash 128 = .ok (.iconst 3, 1) := by decide +kernel
theorem dX6_wash_129 : decode cX6_wash 129 = .ok (.iload 6, 2) := by decide +kernel
theorem dX6_wash_131 : decode cX6_wash 131 = .ok (.imul, 1) := by decide +kernel
theorem dX6_wash_132 : decode cX6_wash 132 = .ok (.iadd, 1) := by decide +kernel
theorem dX6_wash_133 : decode cX6_wash 133 = .ok (.putfield 79, 3) := by decide +kernel
theorem dX6_wash_136 : decode cX6_wash 136 = .ok (.iload 6, 2) := by decide +kernel
theorem dX6_wash_138 : decode cX6_wash 138 = .ok (.ireturn, 1) := by decide +kernel
theorem dX6_whole_0 : decode cX6_whole 0 = .ok (.aload_n 0, 1) := by decide +kernel
theorem dX6_whole_1 : decode cX6_whole 1 = .ok (.iload_n 1, 1) := by decide +kernel
theorem dX6_whole_2 : decode cX6_whole 2 = .ok (.invokevirtual 141, 3) := by decide +kernel
theorem dX6_whole_5 : decode cX6_whole 5 = .ok (.astore_n 3, 1) := by decide +kernel
theorem dX6_whole_6 : decode cX6_whole 6 = .ok (.aload_n 0, 1) := by decide +kernel
theorem dX6_whole_7 : decode cX6_whole 7 = .ok (.iload_n 2, 1) := by decide +kernel
theorem dX6_whole_8 : decode cX6_whole 8 = .ok (.invokevirtual 172, 3) := by decide +kernel
theorem dX6_whole_11 : decode cX6_whole 11 = .ok (.astore 4, 2) := by decide +kernel
theorem dX6_whole_13 : decode cX6_whole 13 = .ok (.aload_n 3, 1) := by decide +kernel
theorem dX6_whole_14 : decode cX6_whole 14 = .ok (.getfield 152, 3) := by decide +kernel
theorem dX6_whole_17 : decode cX6_whole 17 = .ok (.ifCond .ne 22, 3) := by decide +kernel
theorem dX6_whole_20 : decode cX6_whole 20 = .ok (.aload_n 3, 1) := by decide +kernel
theorem dX6_whole_21 : decode cX6_whole 21 = .ok (.getfield 149, 3) := by decide +kernel
theorem dX6_whole_24 : decode cX6_whole 24 = .ok (.ifCond .eq 15, 3) := by decide +kernel
theorem dX6_whole_27 : decode cX6_whole 27 = .ok (.aload 4, 2) := by decide +kernel
theorem dX6_whole_29 : decode cX6_whole 29 = .ok (.aload_n 3, 1) := by decide +kernel
theorem dX6_whole_30 : decode cX6_whole 30 = .ok (.getfield 149, 3) := by decide +kernel
theorem dX6_whole_33 : decode cX6_whole 33 = .ok (.invokevirtual 180, 3) := by decide +kernel
theorem dX6_whole_36 : decode cX6_whole 36 = .ok (.ifCond .ne 13, 3) := by decide +kernel
theorem dX6_whole_39 : decode cX6_whole 39 = .ok (.new 93, 3) := by decide +kernel
theorem dX6_whole_42 : decode cX6_whole 42 = .ok (.dup, 1) := by decide +kernel
theorem dX6_whole_43 : decode cX6_whole 43 = .ok (.ldc 198, 2) := by decide +kernel
theorem dX6_whole_45 : decode cX6_whole 45 = .ok (.invokespecial 97, 3) := by decide +kernel
theorem dX6_whole_48 : decode cX6_whole 48 = .ok (.athrow, 1) := by decide +kernel
theorem dX6_whole_49 : decode cX6_whole 49 = .ok (.aload_n 3, 1) := by decide +kernel
theorem dX6_whole_50 : decode cX6_whole 50 = .ok (.iconst 2, 1) := by decide +kernel
theorem dX6_whole_51 : decode cX6_whole 51 = .ok (.putfield 152, 3) := by decide +kernel
theorem dX6_whole_54 : decode cX6_whole 54 = .ok (.aload 4, 2) := by decide +kernel
theorem dX6_whole_56 : decode cX6_whole 56 = .ok (.iconst 2, 1) := by decide +kernel
theorem dX6_whole_57 : decode cX6_whole 57 = .ok (.sipush 600, 3) := by decide +kernel
theorem dX6_whole_60 : decode cX6_whole 60 = .ok (.iconst 0, 1) := by decide +kernel
theorem dX6_whole_61 : decode cX6_whole 61 = .ok (.invokevirtual 186, 3) := by decide +kernel
theorem dX6_whole_64 : decode cX6_whole 64 = .ok (.aload 4, 2) := by decide +kernel
theorem dX6_whole_66 : decode cX6_whole 66 = .ok (.getfield 190, 3) := by decide +kernel
theorem dX6_whole_69 : decode cX6_whole 69 = .ok (.aload_n 3, 1) := by decide +kernel
theorem dX6_whole_70 : decode cX6_whole 70 = .ok (.aload_n 3, 1) := by decide +kernel
theorem dX6_whole_71 : decode cX6_whole 71 = .ok (.getfield 149, 3) := by decide +kernel
theorem dX6_whole_74 : decode cX6_whole 74 = .ok (.invokevirtual 165, 3) := by decide +kernel
theorem dX6_whole_77 : decode cX6_whole 77 = .ok (.aload 4, 2) := by decide +kernel
theorem dX6_whole_79 : decode cX6_whole 79 = .ok (.getfield 190, 3) := by decide +kernel
theorem dX6_whole_82 : decode cX6_whole 82 = .ok (.getfield 171, 3) := by decide +kernel
theorem dX6_whole_85 : decode cX6_whole 85 = .ok (.ireturn, 1) := by decide +kernel
theorem dX6_turn_0 : decode cX6_turn 0 = .ok (.aload_n 0, 1) := by decide +kernel
theorem dX6_turn_1 : decode cX6_turn 1 = .ok (.iload_n 1, 1) := by decide +kernel
theorem dX6_turn_2 : decode cX6_turn 2 = .ok (.invokevirtual 172, 3) := by decide +kernel
theorem dX6_turn_5 : decode cX6_turn 5 = .ok (.astore_n 2, 1) := by decide +kernel
theorem dX6_turn_6 : decode cX6_turn 6 = .ok (.aload_n 2, 1) := by decide +kernel
theorem dX6_turn_7 : decode cX6_turn 7 = .ok (.getfield 190, 3) := by decide +kernel
theorem dX6_turn_10 : decode cX6_turn 10 = .ok (.invokevirtual 176, 3) := by decide +kernel
theorem dX6_turn_13 : decode cX6_turn 13 = .ok (.ifCond .eq 13, 3) := by decide +kernel
theorem dX6_turn_16 : decode cX6_turn 16 = .ok (.new 93, 3) := by decide +kernel
theorem dX6_turn_19 : decode cX6_turn 19 = .ok (.dup, 1) := by decide +kernel
theorem dX6_turn_20 : decode cX6_turn 20 = .ok (.ldc 200, 2) := by decide +kernel
theorem dX6_turn_22 : decode cX6_turn 22 = .ok (.invokespecial 97, 3) := by decide +kernel
theorem dX6_turn_25 : decode cX6_turn 25 = .ok (.athrow, 1) := by decide +kernel
theorem dX6_turn_26 : decode cX6_turn 26 = .ok (.aload_n 2, 1) := by decide +kernel
theorem dX6_turn_27 : decode cX6_turn 27 = .ok (.getfield 202, 3) := by decide +kernel
theorem dX6_turn_30 : decode cX6_turn 30 = .ok (.istore_n 3, 1) := by decide +kernel
theorem dX6_turn_31 : decode cX6_turn 31 = .ok (.aload_n 2, 1) := by decide +kernel
theorem dX6_turn_32 : decode cX6_turn 32 = .ok (.iconst 0, 1) := by decide +kernel
theorem dX6_turn_33 : decode cX6_turn 33 = .ok (.putfield 202, 3) := by decide +kernel
theorem dX6_turn_36 : decode cX6_turn 36 = .ok (.iload_n 3, 1) := by decide +kernel
theorem dX6_turn_37 : decode cX6_turn 37 = .ok (.ireturn, 1) := by decide +kernel
theorem dX6_cover_0 : decode cX6_cover 0 = .ok (.aload_n 0, 1) := by decide +kernel
theorem dX6_cover_1 : decode cX6_cover 1 = .ok (.iload_n 1, 1) := by decide +kernel
theorem dX6_cover_2 : decode cX6_cover 2 = .ok (.invokevirtual 172, 3) := by decide +kernel
theorem dX6_cover_5 : decode cX6_cover 5 = .ok (.astore_n 3, 1) := by decide +kernel
theorem dX6_cover_6 : decode cX6_cover 6 = .ok (.aload_n 3, 1) := by decide +kernel
theorem dX6_cover_7 : decode cX6_cover 7 = .ok (.getfield 205, 3) := by decide +kernel
theorem dX6_cover_10 : decode cX6_cover 10 = .ok (.istore 4, 2) := by decide +kernel
theorem dX6_cover_12 : decode cX6_cover 12 = .ok (.aload_n 3, 1) := by decide +kernel
theorem dX6_cover_13 : decode cX6_cover 13 = .ok (.iload_n 2, 1) := by decide +kernel
theorem dX6_cover_14 : decode cX6_cover 14 = .ok (.putfield 205, 3) := by decide +kernel
theorem dX6_cover_17 : decode cX6_cover 17 = .ok (.iload 4, 2) := by decide +kernel
theorem dX6_cover_19 : decode cX6_cover 19 = .ok (.ireturn, 1) := by decide +kernel
theorem dX6_store_0 : decode cX6_store 0 = .ok (.aload_n 0, 1) := by decide +kernel
theorem dX6_store_1 : decode cX6_store 1 = .ok (.iload_n 1, 1) := by decide +kernel
theorem dX6_store_2 : decode cX6_store 2 = .ok (.invokevirtual 172, 3) := by decide +kernel
theorem dX6_store_5 : decode cX6_store 5 = .ok (.astore_n 2, 1) := by decide +kernel
theorem dX6_store_6 : decode cX6_store 6 = .ok (.aload_n 2, 1) := by decide +kernel
theorem dX6_store_7 : decode cX6_store 7 = .ok (.invokevirtual 209, 3) := by decide +kernel
theorem dX6_store_10 : decode cX6_store 10 = .ok (.ifCond .eq 12, 3) := by decide +kernel
theorem dX6_store_13 : decode cX6_store 13 = .ok (.aload_n 0, 1) := by decide +kernel
theorem dX6_store_14 : decode cX6_store 14 = .ok (.getfield 58, 3) := by decide +kernel
theorem dX6_store_17 : decode cX6_store 17 = .ok (.bipush 12, 2) := by decide +kernel
theorem dX6_store_19 : decode cX6_store 19 = .ok (.if_icmp .lt 13, 3) := by decide +kernel
theorem dX6_store_22 : decode cX6_store 22 = .ok (.new 93, 3) := by decide +kernel
theorem dX6_store_25 : decode cX6_store 25 = .ok (.dup, 1) := by decide +kernel
theorem dX6_store_26 : decode cX6_store 26 = .ok (.ldc 213, 2) := by decide +kernel
theorem dX6_store_28 : decode cX6_store 28 = .ok (.invokespecial 97, 3) := by decide +kernel
theorem dX6_store_31 : decode cX6_store 31 = .ok (.athrow, 1) := by decide +kernel
theorem dX6_store_32 : decode cX6_store 32 = .ok (.aload_n 0, 1) := by decide +kernel
theorem dX6_store_33 : decode cX6_store 33 = .ok (.getfield 35, 3) := by decide +kernel
theorem dX6_store_36 : decode cX6_store 36 = .ok (.aload_n 0, 1) := by decide +kernel
theorem dX6_store_37 : decode cX6_store 37 = .ok (.getfield 58, 3) := by decide +kernel
theorem dX6_store_40 : decode cX6_store 40 = .ok (.aaload, 1) := by decide +kernel
theorem dX6_store_41 : decode cX6_store 41 = .ok (.astore_n 3, 1) := by decide +kernel
theorem dX6_store_42 : decode cX6_store 42 = .ok (.aload_n 3, 1) := by decide +kernel
theorem dX6_store_43 : decode cX6_store 43 = .ok (.aload_n 2, 1) := by decide +kernel
theorem dX6_store_44 : decode cX6_store 44 = .ok (.invokevirtual 215, 3) := by decide +kernel
theorem dX6_store_47 : decode cX6_store 47 = .ok (.aload_n 0, 1) := by decide +kernel
theorem dX6_store_48 : decode cX6_store 48 = .ok (.dup, 1) := by decide +kernel
theorem dX6_store_49 : decode cX6_store 49 = .ok (.getfield 58, 3) := by decide +kernel
theorem dX6_store_52 : decode cX6_store 52 = .ok (.iconst 1, 1) := by decide +kernel
theorem dX6_store_53 : decode cX6_store 53 = .ok (.iadd, 1) := by decide +kernel
theorem dX6_store_54 : decode cX6_store 54 = .ok (.putfield 58, 3) := by decide +kernel
theorem dX6_store_57 : decode cX6_store 57 = .ok (.aload_n 0, 1) := by decide +kernel
theorem dX6_store_58 : decode cX6_store 58 = .ok (.dup, 1) := by decide +kernel
theorem dX6_store_59 : decode cX6_store 59 = .ok (.getfield 76, 3) := by decide +kernel
theorem dX6_store_62 : decode cX6_store 62 = .ok (.aload_n 2, 1) := by decide +kernel
theorem dX6_store_63 : decode cX6_store 63 = .ok (.getfield 190, 3) := by decide +kernel
theorem dX6_store_66 : decode cX6_store 66 = .ok (.getfield 171, 3) := by decide +kernel
theorem dX6_store_69 : decode cX6_store 69 = .ok (.aload_n 3, 1) := by decide +kernel
theorem dX6_store_70 : decode cX6_store 70 = .ok (.getfield 219, 3) := by decide +kernel
theorem dX6_store_73 : decode cX6_store 73 = .ok (.getfield 171, 3) := by decide +kernel
theorem dX6_store_76 : decode cX6_store 76 = .ok (.isub, 1) := by decide +kernel
theorem dX6_store_77 : decode cX6_store 77 = .ok (.iadd, 1) := by decide +kernel
theorem dX6_store_78 : decode cX6_store 78 = .ok (.putfield 76, 3) := by decide +kernel
theorem dX6_store_81 : decode cX6_store 81 = .ok (.aload_n 2, 1) := by decide +kernel
theorem dX6_store_82 : decode cX6_store 82 = .ok (.invokevirtual 220, 3) := by decide +kernel
theorem dX6_store_85 : decode cX6_store 85 = .ok (.aload_n 0, 1) := by decide +kernel
theorem dX6_store_86 : decode cX6_store 86 = .ok (.getfield 58, 3) := by decide +kernel
theorem dX6_store_89 : decode cX6_store 89 = .ok (.iconst 1, 1) := by decide +kernel
theorem dX6_store_90 : decode cX6_store 90 = .ok (.isub, 1) := by decide +kernel
theorem dX6_store_91 : decode cX6_store 91 = .ok (.ireturn, 1) := by decide +kernel
theorem dX6_cup_0 : decode cX6_cup 0 = .ok (.aload_n 0, 1) := by decide +kernel
theorem dX6_cup_1 : decode cX6_cup 1 = .ok (.iload_n 1, 1) := by decide +kernel
theorem dX6_cup_2 : decode cX6_cup 2 = .ok (.invokevirtual 227, 3) := by decide +kernel
theorem dX6_cup_5 : decode cX6_cup 5 = .ok (.astore_n 3, 1) := by decide +kernel
theorem dX6_cup_6 : decode cX6_cup 6 = .ok (.iload_n 2, 1) := by decide +kernel
theorem dX6_cup_7 : decode cX6_cup 7 = .ok (.invokestatic 221, 3) := by decide +kernel
theorem dX6_cup_10 : decode cX6_cup 10 = .ok (.aload_n 3, 1) := by decide +kernel
theorem dX6_cup_11 : decode cX6_cup 11 = .ok (.getfield 231, 3) := by decide +kernel
theorem dX6_cup_14 : decode cX6_cup 14 = .ok (.ifCond .ne 13, 3) := by decide +kernel
theorem dX6_cup_17 : decode cX6_cup 17 = .ok (.new 93, 3) := by decide +kernel
theorem dX6_cup_20 : decode cX6_cup 20 = .ok (.dup, 1) := by decide +kernel
theorem dX6_cup_21 : decode cX6_cup 21 = .ok (.ldc 234, 2) := by decide +kernel
theorem dX6_cup_23 : decode cX6_cup 23 = .ok (.invokespecial 97, 3) := by decide +kernel
theorem dX6_cup_26 : decode cX6_cup 26 = .ok (.athrow, 1) := by decide +kernel
theorem dX6_cup_27 : decode cX6_cup 27 = .ok (.aload_n 3, 1) := by decide +kernel
theorem dX6_cup_28 : decode cX6_cup 28 = .ok (.aload_n 0, 1) := by decide +kernel
theorem dX6_cup_29 : decode cX6_cup 29 = .ok (.getfield 11, 3) := by decide +kernel
theorem dX6_cup_32 : decode cX6_cup 32 = .ok (.invokevirtual 236, 3) := by decide +kernel
theorem dX6_cup_35 : decode cX6_cup 35 = .ok (.aload_n 0, 1) := by decide +kernel
theorem dX6_cup_36 : decode cX6_cup 36 = .ok (.getfield 44, 3) := by decide +kernel
theorem dX6_cup_39 : decode cX6_cup 39 = .ok (.iload_n 2, 1) := by decide +kernel
theorem dX6_cup_40 : decode cX6_cup 40 = .ok (.iaload, 1) := by decide +kernel
theorem dX6_cup_41 : decode cX6_cup 41 = .ok (.iadd, 1) := by decide +kernel
theorem dX6_cup_42 : decode cX6_cup 42 = .ok (.istore 4, 2) := by decide +kernel
theorem dX6_cup_44 : decode cX6_cup 44 = .ok (.aload_n 3, 1) := by decide +kernel
theorem dX6_cup_45 : decode cX6_cup 45 = .ok (.getfield 240, 3) := by decide +kernel
theorem dX6_cup_48 : decode cX6_cup 48 = .ok (.iload_n 2, 1) := by decide +kernel
theorem dX6_cup_49 : decode cX6_cup 49 = .ok (.iload 4, 2) := by decide +kernel
theorem dX6_cup_51 : decode cX6_cup 51 = .ok (.iastore, 1) := by decide +kernel
theorem dX6_cup_52 : decode cX6_cup 52 = .ok (.iload 4, 2) := by decide +kernel
theorem dX6_cup_54 : decode cX6_cup 54 = .ok (.ireturn, 1) := by decide +kernel
theorem dX6_blend_0 : decode cX6_blend 0 = .ok (.aload_n 0, 1) := by decide +kernel
theorem dX6_blend_1 : decode cX6_blend 1 = .ok (.iload_n 1, 1) := by decide +kernel
theorem dX6_blend_2 : decode cX6_blend 2 = .ok (.invokevirtual 227, 3) := by decide +kernel
theorem dX6_blend_5 : decode cX6_blend 5 = .ok (.astore_n 3, 1) := by decide +kernel
theorem dX6_blend_6 : decode cX6_blend 6 = .ok (.aload_n 0, 1) := by decide +kernel
theorem dX6_blend_7 : decode cX6_blend 7 = .ok (.iload_n 2, 1) := by decide +kernel
theorem dX6_blend_8 : decode cX6_blend 8 = .ok (.invokevirtual 227, 3) := by decide +kernel
theorem dX6_blend_11 : decode cX6_blend 11 = .ok (.astore 4, 2) := by decide +kernel
theorem dX6_blend_13 : decode cX6_blend 13 = .ok (.iload_n 1, 1) := by decide +kernel
theorem dX6_blend_14 : decode cX6_blend 14 = .ok (.iload_n 2, 1) := by decide +kernel
theorem dX6_blend_15 : decode cX6_blend 15 = .ok (.if_icmp .ne 13, 3) := by decide +kernel
theorem dX6_blend_18 : decode cX6_blend 18 = .ok (.new 86, 3) := by decide +kernel
theorem dX6_blend_21 : decode cX6_blend 21 = .ok (.dup, 1) := by decide +kernel
theorem dX6_blend_22 : decode cX6_blend 22 = .ok (.ldc 243, 2) := by decide +kernel
theorem dX6_blend_24 : decode cX6_blend 24 = .ok (.invokespecial 90, 3) := by decide +kernel
theorem dX6_blend_27 : decode cX6_blend 27 = .ok (.athrow, 1) := by decide +kernel
theorem dX6_blend_28 : decode cX6_blend 28 = .ok (.aload_n 3, 1) := by decide +kernel
theorem dX6_blend_29 : decode cX6_blend 29 = .ok (.aload 4, 2) := by decide +kernel
theorem dX6_blend_31 : decode cX6_blend 31 = .ok (.invokevirtual 245, 3) := by decide +kernel
theorem dX6_blend_34 : decode cX6_blend 34 = .ok (.ifCond .ne 13, 3) := by decide +kernel
theorem dX6_blend_37 : decode cX6_blend 37 = .ok (.new 93, 3) := by decide +kernel
theorem dX6_blend_40 : decode cX6_blend 40 = .ok (.dup, 1) := by decide +kernel
theorem dX6_blend_41 : decode cX6_blend 41 = .ok (.ldc 249, 2) := by decide +kernel
theorem dX6_blend_43 : decode cX6_blend 43 = .ok (.invokespecial 97, 3) := by decide +kernel
theorem dX6_blend_46 : decode cX6_blend 46 = .ok (.athrow, 1) := by decide +kernel
theorem dX6_blend_47 : decode cX6_blend 47 = .ok (.aload_n 3, 1) := by decide +kernel
theorem dX6_blend_48 : decode cX6_blend 48 = .ok (.aload 4, 2) := by decide +kernel
theorem dX6_blend_50 : decode cX6_blend 50 = .ok (.invokevirtual 251, 3) := by decide +kernel
theorem dX6_blend_53 : decode cX6_blend 53 = .ok (.aload_n 3, 1) := by decide +kernel
theorem dX6_blend_54 : decode cX6_blend 54 = .ok (.invokevirtual 255, 3) := by decide +kernel
theorem dX6_blend_57 : decode cX6_blend 57 = .ok (.aload 4, 2) := by decide +kernel
theorem dX6_blend_59 : decode cX6_blend 59 = .ok (.getfield 219, 3) := by decide +kernel
theorem dX6_blend_62 : decode cX6_blend 62 = .ok (.invokevirtual 258, 3) := by decide +kernel
theorem dX6_blend_65 : decode cX6_blend 65 = .ok (.aload 4, 2) := by decide +kernel
theorem dX6_blend_67 : decode cX6_blend 67 = .ok (.invokevirtual 255, 3) := by decide +kernel
theorem dX6_blend_70 : decode cX6_blend 70 = .ok (.aload 4, 2) := by decide +kernel
theorem dX6_blend_72 : decode cX6_blend 72 = .ok (.iconst 0, 1) := by decide +kernel
theorem dX6_blend_73 : decode cX6_blend 73 = .ok (.putfield 231, 3) := by decide +kernel
theorem dX6_blend_76 : decode cX6_blend 76 = .ok (.aload_n 3, 1) := by decide +kernel
theorem dX6_blend_77 : decode cX6_blend 77 = .ok (.getfield 219, 3) := by decide +kernel
theorem dX6_blend_80 : decode cX6_blend 80 = .ok (.getfield 171, 3) := by decide +kernel
theorem dX6_blend_83 : decode cX6_blend 83 = .ok (.ireturn, 1) := by decide +kernel
theorem dX6_sell_0 : decode cX6_sell 0 = .ok (.aload_n 0, 1) := by decide +kernel
theorem dX6_sell_1 : decode cX6_sell 1 = .ok (.iload_n 1, 1) := by decide +kernel
theorem dX6_sell_2 : decode cX6_sell 2 = .ok (.invokevirtual 227, 3) := by decide +kernel
theorem dX6_sell_5 : decode cX6_sell 5 = .ok (.astore 4, 2) := by decide +kernel
theorem dX6_sell_7 : decode cX6_sell 7 = .ok (.aload 4, 2) := by decide +kernel
theorem dX6_sell_9 : decode cX6_sell 9 = .ok (.iload_n 2, 1) := by decide +kernel
theorem dX6_sell_10 : decode cX6_sell 10 = .ok (.invokestatic 261, 3) := by decide +kernel
theorem dX6_sell_13 : decode cX6_sell 13 = .ok (.aload 4, 2) := by decide +kernel
theorem dX6_sell_15 : decode cX6_sell 15 = .ok (.iload_n 2, 1) := by decide +kernel
theorem dX6_sell_16 : decode cX6_sell 16 = .ok (.iload_n 3, 1) := by decide +kernel
theorem dX6_sell_17 : decode cX6_sell 17 = .ok (.invokevirtual 265, 3) := by decide +kernel
theorem dX6_sell_20 : decode cX6_sell 20 = .ok (.istore 5, 2) := by decide +kernel
theorem dX6_sell_22 : decode cX6_sell 22 = .ok (.iload 5, 2) := by decide +kernel
theorem dX6_sell_24 : decode cX6_sell 24 = .ok (.istore 6, 2) := by decide +kernel
theorem dX6_sell_26 : decode cX6_sell 26 = .ok (.iconst 0, 1) := by decide +kernel
theorem dX6_sell_27 : decode cX6_sell 27 = .ok (.istore 7, 2) := by decide +kernel
theorem dX6_sell_29 : decode cX6_sell 29 = .ok (.iload 7, 2) := by decide +kernel
theorem dX6_sell_31 : decode cX6_sell 31 = .ok (.aload_n 0, 1) := by decide +kernel
theorem dX6_sell_32 : decode cX6_sell 32 = .ok (.getfield 48, 3) := by decide +kernel
theorem dX6_sell_35 : decode cX6_sell 35 = .ok (.if_icmp .ge 44, 3) := by decide +kernel
theorem dX6_sell_38 : decode cX6_sell 38 = .ok (.aload 4, 2) := by decide +kernel
theorem dX6_sell_40 : decode cX6_sell 40 = .ok (.iload 7, 2) := by decide +kernel
theorem dX6_sell_42 : decode cX6_sell 42 = .ok (.iload 5, 2) := by decide +kernel
theorem dX6_sell_44 : decode cX6_sell 44 = .ok (.invokevirtual 269, 3) := by decide +kernel
theorem dX6_sell_47 : decode cX6_sell 47 = .ok (.istore 8, 2) := by decide +kernel
theorem dX6_sell_49 : decode cX6_sell 49 = .ok (.aload_n 0, 1) := by decide +kernel
theorem dX6_sell_50 : decode cX6_sell 50 = .ok (.getfield 11, 3) := by decide +kernel
theorem dX6_sell_53 : decode cX6_sell 53 = .ok (.iload 7, 2) := by decide +kernel
theorem dX6_sell_55 : decode cX6_sell 55 = .ok (.aaload, 1) := by decide +kernel
theorem dX6_sell_56 : decode cX6_sell 56 = .ok (.dup, 1) := by decide +kernel
theorem dX6_sell_57 : decode cX6_sell 57 = .ok (.getfield 123, 3) := by decide +kernel
theorem dX6_sell_60 : decode cX6_sell 60 = .ok (.iload 8, 2) := by decide +kernel
theorem dX6_sell_62 : decode cX6_sell 62 = .ok (.iadd, 1) := by decide +kernel
theorem dX6_sell_63 : decode cX6_sell 63 = .ok (.putfield 123, 3) := by decide +kernel
theorem dX6_sell_66 : decode cX6_sell 66 = .ok (.iload 6, 2) := by decide +kernel
theorem dX6_sell_68 : decode cX6_sell 68 = .ok (.iload 8, 2) := by decide +kernel
theorem dX6_sell_70 : decode cX6_sell 70 = .ok (.isub, 1) := by decide +kernel
theorem dX6_sell_71 : decode cX6_sell 71 = .ok (.istore 6, 2) := by decide +kernel
theorem dX6_sell_73 : decode cX6_sell 73 = .ok (.iinc 7 1, 3) := by decide +kernel
theorem dX6_sell_76 : decode cX6_sell 76 = .ok (.goto (-47), 3) := by decide +kernel
theorem dX6_sell_79 : decode cX6_sell 79 = .ok (.aload_n 0, 1) := by decide +kernel
theorem dX6_sell_80 : decode cX6_sell 80 = .ok (.dup, 1) := by decide +kernel
theorem dX6_sell_81 : decode cX6_sell 81 = .ok (.getfield 64, 3) := by decide +kernel
theorem dX6_sell_84 : decode cX6_sell 84 = .ok (.iload 6, 2) := by decide +kernel
theorem dX6_sell_86 : decode cX6_sell 86 = .ok (.iadd, 1) := by decide +kernel
theorem dX6_sell_87 : decode cX6_sell 87 = .ok (.putfield 64, 3) := by decide +kernel
theorem dX6_sell_90 : decode cX6_sell 90 = .ok (.aload_n 0, 1) := by decide +kernel
theorem dX6_sell_91 : decode cX6_sell 91 = .ok (.dup, 1) := by decide +kernel
theorem dX6_sell_92 : decode cX6_sell 92 = .ok (.getfield 73, 3) := by decide +kernel
theorem dX6_sell_95 : decode cX6_sell 95 = .ok (.aload 4, 2) := by decide +kernel
theorem dX6_sell_97 : decode cX6_sell 97 = .ok (.getfield 219, 3) := by decide +kernel
theorem dX6_sell_100 : decode cX6_sell 100 = .ok (.getfield 171, 3) := by decide +kernel
theorem dX6_sell_103 : decode cX6_sell 103 = .ok (.iadd, 1) := by decide +kernel
theorem dX6_sell_104 : decode cX6_sell 104 = .ok (.putfield 73, 3) := by decide +kernel
theorem dX6_sell_107 : decode cX6_sell 107 = .ok (.aload 4, 2) := by decide +kernel
theorem dX6_sell_109 : decode cX6_sell 109 = .ok (.iconst 0, 1) := by decide +kernel
theorem dX6_sell_110 : decode cX6_sell 110 = .ok (.putfield 231, 3) := by decide +kernel
theorem dX6_sell_113 : decode cX6_sell 113 = .ok (.iload 6, 2) := by decide +kernel
theorem dX6_sell_115 : decode cX6_sell 115 = .ok (.ireturn, 1) := by decide +kernel
theorem dX6_ofFarm_0 : decode cX6_ofFarm 0 = .ok (.aload_n 0, 1) := by decide +kernel
theorem dX6_ofFarm_1 : decode cX6_ofFarm 1 = .ok (.iload_n 1, 1) := by decide +kernel
theorem dX6_ofFarm_2 : decode cX6_ofFarm 2 = .ok (.invokevirtual 101, 3) := by decide +kernel
theorem dX6_ofFarm_5 : decode cX6_ofFarm 5 = .ok (.astore_n 3, 1) := by decide +kernel
theorem dX6_ofFarm_6 : decode cX6_ofFarm 6 = .ok (.iload_n 2, 1) := by decide +kernel
theorem dX6_ofFarm_7 : decode cX6_ofFarm 7 = .ok (.tableswitch 59 0 4 #[33, 38, 43, 48, 53], 33) := by decide +kernel
theorem dX6_ofFarm_40 : decode cX6_ofFarm 40 = .ok (.aload_n 3, 1) := by decide +kernel
theorem dX6_ofFarm_41 : decode cX6_ofFarm 41 = .ok (.getfield 98, 3) := by decide +kernel
theorem dX6_ofFarm_44 : decode cX6_ofFarm 44 = .ok (.ireturn, 1) := by decide +kernel
theorem dX6_ofFarm_45 : decode cX6_ofFarm 45 = .ok (.aload_n 3, 1) := by decide +kernel
theorem dX6_ofFarm_46 : decode cX6_ofFarm 46 = .ok (.getfield 107, 3) := by decide +kernel
theorem dX6_ofFarm_49 : decode cX6_ofFarm 49 = .ok (.ireturn, 1) := by decide +kernel
theorem dX6_ofFarm_50 : decode cX6_ofFarm 50 = .ok (.aload_n 3, 1) := by decide +kernel
theorem dX6_ofFarm_51 : decode cX6_ofFarm 51 = .ok (.getfield 123, 3) := by decide +kernel
theorem dX6_ofFarm_54 : decode cX6_ofFarm 54 = .ok (.ireturn, 1) := by decide +kernel
theorem dX6_ofFarm_55 : decode cX6_ofFarm 55 = .ok (.aload_n 3, 1) := by decide +kernel
theorem dX6_ofFarm_56 : decode cX6_ofFarm 56 = .ok (.getfield 120, 3) := by decide +kernel
theorem dX6_ofFarm_59 : decode cX6_ofFarm 59 = .ok (.ireturn, 1) := by decide +kernel
theorem dX6_ofFarm_60 : decode cX6_ofFarm 60 = .ok (.aload_n 0, 1) := by decide +kernel
theorem dX6_ofFarm_61 : decode cX6_ofFarm 61 = .ok (.iload_n 1, 1) := by decide +kernel
theorem dX6_ofFarm_62 : decode cX6_ofFarm 62 = .ok (.invokevirtual 272, 3) := by decide +kernel
theorem dX6_ofFarm_65 : decode cX6_ofFarm 65 = .ok (.ireturn, 1) := by decide +kernel
theorem dX6_ofFarm_66 : decode cX6_ofFarm 66 = .ok (.new 86, 3) := by decide +kernel
theorem dX6_ofFarm_69 : decode cX6_ofFarm 69 = .ok (.dup, 1) := by decide +kernel
theorem dX6_ofFarm_70 : decode cX6_ofFarm 70 = .ok (.ldc_w 276, 3) := by decide +kernel
theorem dX6_ofFarm_73 : decode cX6_ofFarm 73 = .ok (.invokespecial 90, 3) := by decide +kernel
theorem dX6_ofFarm_76 : decode cX6_ofFarm 76 = .ok (.athrow, 1) := by decide +kernel
theorem dX6_ofBasket_0 : decode cX6_ofBasket 0 = .ok (.aload_n 0, 1) := by decide +kernel
theorem dX6_ofBasket_1 : decode cX6_ofBasket 1 = .ok (.iload_n 1, 1) := by decide +kernel
theorem dX6_ofBasket_2 : decode cX6_ofBasket 2 = .ok (.invokevirtual 141, 3) := by decide +kernel
theorem dX6_ofBasket_5 : decode cX6_ofBasket 5 = .ok (.astore_n 3, 1) := by decide +kernel
theorem dX6_ofBasket_6 : decode cX6_ofBasket 6 = .ok (.iload_n 2, 1) := by decide +kernel
theorem dX6_ofBasket_7 : decode cX6_ofBasket 7 = .ok (.tableswitch 75 0 5 #[37, 42, 47, 52, 57, 62], 37) := by decide +kernel
theorem dX6_ofBasket_44 : decode cX6_ofBasket 44 = .ok (.aload_n 3, 1) := by decide +kernel
theorem dX6_ofBasket_45 : decode cX6_ofBasket 45 = .ok (.getfield 278, 3) := by decide +kernel
theorem dX6_ofBasket_48 : decode cX6_ofBasket 48 = .ok (.ireturn, 1) := by decide +kernel
theorem dX6_ofBasket_49 : decode cX6_ofBasket 49 = .ok (.aload_n 3, 1) := by decide +kernel
theorem dX6_ofBasket_50 : decode cX6_ofBasket 50 = .ok (.getfield 149, 3) := by decide +kernel
theorem dX6_ofBasket_53 : decode cX6_ofBasket 53 = .ok (.ireturn, 1) := by decide +kernel
theorem dX6_ofBasket_54 : decode cX6_ofBasket 54 = .ok (.aload_n 3, 1) := by decide +kernel
theorem dX6_ofBasket_55 : decode cX6_ofBasket 55 = .ok (.getfield 281, 3) := by decide +kernel
theorem dX6_ofBasket_58 : decode cX6_ofBasket 58 = .ok (.ireturn, 1) := by decide +kernel
theorem dX6_ofBasket_59 : decode cX6_ofBasket 59 = .ok (.aload_n 3, 1) := by decide +kernel
theorem dX6_ofBasket_60 : decode cX6_ofBasket 60 = .ok (.getfield 152, 3) := by decide +kernel
theorem dX6_ofBasket_63 : decode cX6_ofBasket 63 = .ok (.ireturn, 1) := by decide +kernel
theorem dX6_ofBasket_64 : decode cX6_ofBasket 64 = .ok (.aload_n 3, 1) := by decide +kernel
theorem dX6_ofBasket_65 : decode cX6_ofBasket 65 = .ok (.getfield 284, 3) := by decide +kernel
theorem dX6_ofBasket_68 : decode cX6_ofBasket 68 = .ok (.ireturn, 1) := by decide +kernel
theorem dX6_ofBasket_69 : decode cX6_ofBasket 69 = .ok (.aload_n 3, 1) := by decide +kernel
theorem dX6_ofBasket_70 : decode cX6_ofBasket 70 = .ok (.getfield 287, 3) := by decide +kernel
theorem dX6_ofBasket_73 : decode cX6_ofBasket 73 = .ok (.ifCond .eq 7, 3) := by decide +kernel
theorem dX6_ofBasket_76 : decode cX6_ofBasket 76 = .ok (.iconst 1, 1) := by decide +kernel
theorem dX6_ofBasket_77 : decode cX6_ofBasket 77 = .ok (.goto 4, 3) := by decide +kernel
theorem dX6_ofBasket_80 : decode cX6_ofBasket 80 = .ok (.iconst 0, 1) := by decide +kernel
theorem dX6_ofBasket_81 : decode cX6_ofBasket 81 = .ok (.ireturn, 1) := by decide +kernel
theorem dX6_ofBasket_82 : decode cX6_ofBasket 82 = .ok (.new 86, 3) := by decide +kernel
theorem dX6_ofBasket_85 : decode cX6_ofBasket 85 = .ok (.dup, 1) := by decide +kernel
theorem dX6_ofBasket_86 : decode cX6_ofBasket 86 = .ok (.ldc_w 290, 3) := by decide +kernel
theorem dX6_ofBasket_89 : decode cX6_ofBasket 89 = .ok (.invokespecial 90, 3) := by decide +kernel
theorem dX6_ofBasket_92 : decode cX6_ofBasket 92 = .ok (.athrow, 1) := by decide +kernel
theorem dX6_ofTank_0 : decode cX6_ofTank 0 = .ok (.aload_n 0, 1) := by decide +kernel
theorem dX6_ofTank_1 : decode cX6_ofTank 1 = .ok (.iload_n 1, 1) := by decide +kernel
theorem dX6_ofTank_2 : decode cX6_ofTank 2 = .ok (.invokevirtual 145, 3) := by decide +kernel
theorem dX6_ofTank_5 : decode cX6_ofTank 5 = .ok (.astore_n 3, 1) := by decide +kernel
theorem dX6_ofTank_6 : decode cX6_ofTank 6 = .ok (.iload_n 2, 1) := by decide +kernel
theorem dX6_ofTank_7 : decode cX6_ofTank 7 = .ok (.tableswitch 67 0 4 #[33, 41, 49, 54, 59], 33) := by decide +kernel
theorem dX6_ofTank_40 : decode cX6_ofTank 40 = .ok (.aload_n 3, 1) := by decide +kernel
theorem dX6_ofTank_41 : decode cX6_ofTank 41 = .ok (.getfield 161, 3) := by decide +kernel
theorem dX6_ofTank_44 : decode cX6_ofTank 44 = .ok (.getfield 171, 3) := by decide +kernel
theorem dX6_ofTank_47 : decode cX6_ofTank 47 = .ok (.ireturn, 1) := by decide +kernel
theorem dX6_ofTank_48 : decode cX6_ofTank 48 = .ok (.aload_n 3, 1) := by decide +kernel
theorem dX6_ofTank_49 : decode cX6_ofTank 49 = .ok (.getfield 161, 3) := by decide +kernel
theorem dX6_ofTank_52 : decode cX6_ofTank 52 = .ok (.getfield 292, 3) := by decide +kernel
theorem dX6_ofTank_55 : decode cX6_ofTank 55 = .ok (.ireturn, 1) := by decide +kernel
theorem dX6_ofTank_56 : decode cX6_ofTank 56 = .ok (.aload_n 3, 1) := by decide +kernel
theorem dX6_ofTank_57 : decode cX6_ofTank 57 = .ok (.getfield 293, 3) := by decide +kernel
theorem dX6_ofTank_60 : decode cX6_ofTank 60 = .ok (.ireturn, 1) := by decide +kernel
theorem dX6_ofTank_61 : decode cX6_ofTank 61 = .ok (.aload_n 3, 1) := by decide +kernel
theorem dX6_ofTank_62 : decode cX6_ofTank 62 = .ok (.getfield 181, 3) := by decide +kernel
theorem dX6_ofTank_65 : decode cX6_ofTank 65 = .ok (.ireturn, 1) := by decide +kernel
theorem dX6_ofTank_66 : decode cX6_ofTank 66 = .ok (.aload_n 3, 1) := by decide +kernel
theorem dX6_ofTank_67 : decode cX6_ofTank 67 = .ok (.getfield 161, 3) := by decide +kernel
theorem dX6_ofTank_70 : decode cX6_ofTank 70 = .ok (.invokevirtual 294, 3) := by decide +kernel
theorem dX6_ofTank_73 : decode cX6_ofTank 73 = .ok (.ireturn, 1) := by decide +kernel
theorem dX6_ofTank_74 : decode cX6_ofTank 74 = .ok (.new 86, 3) := by decide +kernel
theorem dX6_ofTank_77 : decode cX6_ofTank 77 = .ok (.dup, 1) := by decide +kernel
theorem dX6_ofTank_78 : decode cX6_ofTank 78 = .ok (.ldc_w 276, 3) := by decide +kernel
theorem dX6_ofTank_81 : decode cX6_ofTank 81 = .ok (.invokespecial 90, 3) := by decide +kernel
theorem dX6_ofTank_84 : decode cX6_ofTank 84 = .ok (.athrow, 1) := by decide +kernel
theorem dX6_ofBed_0 : decode cX6_ofBed 0 = .ok (.aload_n 0, 1) := by decide +kernel
theorem dX6_ofBed_1 : decode cX6_ofBed 1 = .ok (.iload_n 1, 1) := by decide +kernel
theorem dX6_ofBed_2 : decode cX6_ofBed 2 = .ok (.invokevirtual 172, 3) := by decide +kernel
theorem dX6_ofBed_5 : decode cX6_ofBed 5 = .ok (.astore_n 3, 1) := by decide +kernel
theorem dX6_ofBed_6 : decode cX6_ofBed 6 = .ok (.iload_n 2, 1) := by decide +kernel
theorem dX6_ofBed_7 : decode cX6_ofBed 7 = .ok (.tableswitch 96 0 7 #[45, 50, 63, 71, 76, 81, 86, 91], 45) := by decide +kernel
theorem dX6_ofBed_52 : decode cX6_ofBed 52 = .ok (.aload_n 3, 1) := by decide +kernel
theorem dX6_ofBed_53 : decode cX6_ofBed 53 = .ok (.getfield 138, 3) := by decide +kernel
theorem dX6_ofBed_56 : decode cX6_ofBed 56 = .ok (.ireturn, 1) := by decide +kernel
theorem dX6_ofBed_57 : decode cX6_ofBed 57 = .ok (.aload_n 3, 1) := by decide +kernel
theorem dX6_ofBed_58 : decode cX6_ofBed 58 = .ok (.getfield 205, 3) := by decide +kernel
theorem dX6_ofBed_61 : decode cX6_ofBed 61 = .ok (.ifCond .eq 7, 3) := by decide +kernel
theorem dX6_ofBed_64 : decode cX6_ofBed 64 = .ok (.iconst 1, 1) := by decide +kernel
theorem dX6_ofBed_65 : decode cX6_ofBed 65 = .ok (.goto 4, 3) := by decide +kernel
theorem dX6_ofBed_68 : decode cX6_ofBed 68 = .ok (.iconst 0, 1) := by decide +kernel
theorem dX6_ofBed_69 : decode cX6_ofBed 69 = .ok (.ireturn, 1) := by decide +kernel
theorem dX6_ofBed_70 : decode cX6_ofBed 70 = .ok (.aload_n 3, 1) := by decide +kernel
theorem dX6_ofBed_71 : decode cX6_ofBed 71 = .ok (.getfield 190, 3) := by decide +kernel
theorem dX6_ofBed_74 : decode cX6_ofBed 74 = .ok (.getfield 171, 3) := by decide +kernel
theorem dX6_ofBed_77 : decode cX6_ofBed 77 = .ok (.ireturn, 1) := by decide +kernel
theorem dX6_ofBed_78 : decode cX6_ofBed 78 = .ok (.aload_n 3, 1) := by decide +kernel
theorem dX6_ofBed_79 : decode cX6_ofBed 79 = .ok (.getfield 297, 3) := by decide +kernel
theorem dX6_ofBed_82 : decode cX6_ofBed 82 = .ok (.ireturn, 1) := by decide +kernel
theorem dX6_ofBed_83 : decode cX6_ofBed 83 = .ok (.aload_n 3, 1) := by decide +kernel
theorem dX6_ofBed_84 : decode cX6_ofBed 84 = .ok (.getfield 300, 3) := by decide +kernel
theorem dX6_ofBed_87 : decode cX6_ofBed 87 = .ok (.ireturn, 1) := by decide +kernel
theorem dX6_ofBed_88 : decode cX6_ofBed 88 = .ok (.aload_n 3, 1) := by decide +kernel
theorem dX6_ofBed_89 : decode cX6_ofBed 89 = .ok (.getfield 202, 3) := by decide +kernel
theorem dX6_ofBed_92 : decode cX6_ofBed 92 = .ok (.ireturn, 1) := by decide +kernel
theorem dX6_ofBed_93 : decode cX6_ofBed 93 = .ok (.aload_n 3, 1) := by decide +kernel
theorem dX6_ofBed_94 : decode cX6_ofBed 94 = .ok (.getfield 303, 3) := by decide +kernel
theorem dX6_ofBed_97 : decode cX6_ofBed 97 = .ok (.ireturn, 1) := by decide +kernel
theorem dX6_ofBed_98 : decode cX6_ofBed 98 = .ok (.aload_n 3, 1) := by decide +kernel
theorem dX6_ofBed_99 : decode cX6_ofBed 99 = .ok (.getfield 306, 3) := by decide +kernel
theorem dX6_ofBed_102 : decode cX6_ofBed 102 = .ok (.ireturn, 1) := by decide +kernel
theorem dX6_ofBed_103 : decode cX6_ofBed 103 = .ok (.new 86, 3) := by decide +kernel
theorem dX6_ofBed_106 : decode cX6_ofBed 106 = .ok (.dup, 1) := by decide +kernel
theorem dX6_ofBed_107 : decode cX6_ofBed 107 = .ok (.ldc_w 307, 3) := by decide +kernel
theorem dX6_ofBed_110 : decode cX6_ofBed 110 = .ok (.invokespecial 90, 3) := by decide +kernel
theorem dX6_ofBed_113 : decode cX6_ofBed 113 = .ok (.athrow, 1) := by decide +kernel
theorem dX6_ofLot_0 : decode cX6_ofLot 0 = .ok (.aload_n 0, 1) := by decide +kernel
theorem dX6_ofLot_1 : decode cX6_ofLot 1 = .ok (.iload_n 1, 1) := by decide +kernel
theorem dX6_ofLot_2 : decode cX6_ofLot 2 = .ok (.invokevirtual 227, 3) := by decide +kernel
theorem dX6_ofLot_5 : decode cX6_ofLot 5 = .ok (.astore_n 3, 1) := by decide +kernel
theorem dX6_ofLot_6 : decode cX6_ofLot 6 = .ok (.iload_n 2, 1) := by decide +kernel
theorem dX6_ofLot_7 : decode cX6_ofLot 7 = .ok (.tableswitch 170 0 11 #[61, 69, 74, 87, 95, 103, 108, 113, 118, 123, 128, 151], 61) := by decide +kernel
theorem dX6_ofLot_68 : decode cX6_ofLot 68 = .ok (.aload_n 3, 1) := by decide +kernel
theorem dX6_ofLot_69 : decode cX6_ofLot 69 = .ok (.getfield 219, 3) := by decide +kernel
theorem dX6_ofLot_72 : decode cX6_ofLot 72 = .ok (.getfield 171, 3) := by decide +kernel
theorem dX6_ofLot_75 : decode cX6_ofLot 75 = .ok (.ireturn, 1) := by decide +kernel
theorem dX6_ofLot_76 : decode cX6_ofLot 76 = .ok (.aload_n 3, 1) := by decide +kernel
theorem dX6_ofLot_77 : decode cX6_ofLot 77 = .ok (.getfield 309, 3) := by decide +kernel
theorem dX6_ofLot_80 : decode cX6_ofLot 80 = .ok (.ireturn, 1) := by decide +kernel
theorem dX6_ofLot_81 : decode cX6_ofLot 81 = .ok (.aload_n 3, 1) := by decide +kernel
theorem dX6_ofLot_82 : decode cX6_ofLot 82 = .ok (.getfield 231, 3) := by decide +kernel
theorem dX6_ofLot_85 : decode cX6_ofLot 85 = .ok (.ifCond .eq 7, 3) := by decide +kernel
theorem dX6_ofLot_88 : decode cX6_ofLot 88 = .ok (.iconst 1, 1) := by decide +kernel
theorem dX6_ofLot_89 : decode cX6_ofLot 89 = .ok (.goto 4, 3) := by decide +kernel
theorem dX6_ofLot_92 : decode cX6_ofLot 92 = .ok (.iconst 0, 1) := by decide +kernel
theorem dX6_ofLot_93 : decode cX6_ofLot 93 = .ok (.ireturn, 1) := by decide +kernel
theorem dX6_ofLot_94 : decode cX6_ofLot 94 = .ok (.aload_n 3, 1) := by decide +kernel
theorem dX6_ofLot_95 : decode cX6_ofLot 95 = .ok (.getfield 219, 3) := by decide +kernel
theorem dX6_ofLot_98 : decode cX6_ofLot 98 = .ok (.invokevirtual 294, 3) := by decide +kernel
theorem dX6_ofLot_101 : decode cX6_ofLot 101 = .ok (.ireturn, 1) := by decide +kernel
theorem dX6_ofLot_102 : decode cX6_ofLot 102 = .ok (.aload_n 3, 1) := by decide +kernel
theorem dX6_ofLot_103 : decode cX6_ofLot 103 = .ok (.getfield 219, 3) := by decide +kernel
theorem dX6_ofLot_106 : decode cX6_ofLot 106 = .ok (.getfield 292, 3) := by decide +kernel
theorem dX6_ofLot_109 : decode cX6_ofLot 109 = .ok (.ireturn, 1) := by decide +kernel
theorem dX6_ofLot_110 : decode cX6_ofLot 110 = .ok (.aload_n 3, 1) := by decide +kernel
theorem dX6_ofLot_111 : decode cX6_ofLot 111 = .ok (.getfield 310, 3) := by decide +kernel
theorem dX6_ofLot_114 : decode cX6_ofLot 114 = .ok (.ireturn, 1) := by decide +kernel
theorem dX6_ofLot_115 : decode cX6_ofLot 115 = .ok (.aload_n 3, 1) := by decide +kernel
theorem dX6_ofLot_116 : decode cX6_ofLot 116 = .ok (.getfield 311, 3) := by decide +kernel
theorem dX6_ofLot_119 : decode cX6_ofLot 119 = .ok (.ireturn, 1) := by decide +kernel
theorem dX6_ofLot_120 : decode cX6_ofLot 120 = .ok (.aload_n 3, 1) := by decide +kernel
theorem dX6_ofLot_121 : decode cX6_ofLot 121 = .ok (.getfield 312, 3) := by decide +kernel
theorem dX6_ofLot_124 : decode cX6_ofLot 124 = .ok (.ireturn, 1) := by decide +kernel
theorem dX6_ofLot_125 : decode cX6_ofLot 125 = .ok (.aload_n 3, 1) := by decide +kernel
theorem dX6_ofLot_126 : decode cX6_ofLot 126 = .ok (.getfield 313, 3) := by decide +kernel
theorem dX6_ofLot_129 : decode cX6_ofLot 129 = .ok (.ireturn, 1) := by decide +kernel
theorem dX6_ofLot_130 : decode cX6_ofLot 130 = .ok (.aload_n 3, 1) := by decide +kernel
theorem dX6_ofLot_131 : decode cX6_ofLot 131 = .ok (.invokevirtual 314, 3) := by decide +kernel
theorem dX6_ofLot_134 : decode cX6_ofLot 134 = .ok (.ireturn, 1) := by decide +kernel
theorem dX6_ofLot_135 : decode cX6_ofLot 135 = .ok (.aload_n 3, 1) := by decide +kernel
theorem dX6_ofLot_136 : decode cX6_ofLot 136 = .ok (.getfield 219, 3) := by decide +kernel
theorem dX6_ofLot_139 : decode cX6_ofLot 139 = .ok (.invokevirtual 176, 3) := by decide +kernel
theorem dX6_ofLot_142 : decode cX6_ofLot 142 = .ok (.ifCond .eq 7, 3) := by decide +kernel
theorem dX6_ofLot_145 : decode cX6_ofLot 145 = .ok (.iconst 0, 1) := by decide +kernel
theorem dX6_ofLot_146 : decode cX6_ofLot 146 = .ok (.goto 11, 3) := by decide +kernel
theorem dX6_ofLot_149 : decode cX6_ofLot 149 = .ok (.aload_n 3, 1) := by decide +kernel
theorem dX6_ofLot_150 : decode cX6_ofLot 150 = .ok (.aload_n 0, 1) := by decide +kernel
theorem dX6_ofLot_151 : decode cX6_ofLot 151 = .ok (.getfield 11, 3) := by decide +kernel
theorem dX6_ofLot_154 : decode cX6_ofLot 154 = .ok (.invokevirtual 236, 3) := by decide +kernel
theorem dX6_ofLot_157 : decode cX6_ofLot 157 = .ok (.ireturn, 1) := by decide +kernel
theorem dX6_ofLot_158 : decode cX6_ofLot 158 = .ok (.aload_n 3, 1) := by decide +kernel
theorem dX6_ofLot_159 : decode cX6_ofLot 159 = .ok (.getfield 219, 3) := by decide +kernel
theorem dX6_ofLot_162 : decode cX6_ofLot 162 = .ok (.invokevirtual 176, 3) := by decide +kernel
theorem dX6_ofLot_165 : decode cX6_ofLot 165 = .ok (.ifCond .eq 7, 3) := by decide +kernel
theorem dX6_ofLot_168 : decode cX6_ofLot 168 = .ok (.iconst 0, 1) := by decide +kernel
theorem dX6_ofLot_169 : decode cX6_ofLot 169 = .ok (.goto 7, 3) := by decide +kernel
theorem dX6_ofLot_172 : decode cX6_ofLot 172 = .ok (.aload_n 3, 1) := by decide +kernel
theorem dX6_ofLot_173 : decode cX6_ofLot 173 = .ok (.invokevirtual 317, 3) := by decide +kernel
theorem dX6_ofLot_176 : decode cX6_ofLot 176 = .ok (.ireturn, 1) := by decide +kernel
theorem dX6_ofLot_177 : decode cX6_ofLot 177 = .ok (.new 86, 3) := by decide +kernel
theorem dX6_ofLot_180 : decode cX6_ofLot 180 = .ok (.dup, 1) := by decide +kernel
theorem dX6_ofLot_181 : decode cX6_ofLot 181 = .ok (.ldc_w 320, 3) := by decide +kernel
theorem dX6_ofLot_184 : decode cX6_ofLot 184 = .ok (.invokespecial 90, 3) := by decide +kernel
theorem dX6_ofLot_187 : decode cX6_ofLot 187 = .ok (.athrow, 1) := by decide +kernel
theorem dX6_kilosOf_0 : decode cX6_kilosOf 0 = .ok (.aload_n 0, 1) := by decide +kernel
theorem dX6_kilosOf_1 : decode cX6_kilosOf 1 = .ok (.iload_n 1, 1) := by decide +kernel
theorem dX6_kilosOf_2 : decode cX6_kilosOf 2 = .ok (.invokevirtual 227, 3) := by decide +kernel
theorem dX6_kilosOf_5 : decode cX6_kilosOf 5 = .ok (.astore_n 3, 1) := by decide +kernel
theorem dX6_kilosOf_6 : decode cX6_kilosOf 6 = .ok (.aload_n 0, 1) := by decide +kernel
theorem dX6_kilosOf_7 : decode cX6_kilosOf 7 = .ok (.iload_n 2, 1) := by decide +kernel
theorem dX6_kilosOf_8 : decode cX6_kilosOf 8 = .ok (.invokevirtual 322, 3) := by decide +kernel
theorem dX6_kilosOf_11 : decode cX6_kilosOf 11 = .ok (.aload_n 3, 1) := by decide +kernel
theorem dX6_kilosOf_12 : decode cX6_kilosOf 12 = .ok (.getfield 219, 3) := by decide +kernel
theorem dX6_kilosOf_15 : decode cX6_kilosOf 15 = .ok (.getfield 325, 3) := by decide +kernel
theorem dX6_kilosOf_18 : decode cX6_kilosOf 18 = .ok (.iload_n 2, 1) := by decide +kernel
theorem dX6_kilosOf_19 : decode cX6_kilosOf 19 = .ok (.iaload, 1) := by decide +kernel
theorem dX6_kilosOf_20 : decode cX6_kilosOf 20 = .ok (.ireturn, 1) := by decide +kernel
theorem dX6_many_0 : decode cX6_many 0 = .ok (.iload_n 1, 1) := by decide +kernel
theorem dX6_many_1 : decode cX6_many 1 = .ok (.tableswitch 159 0 15 #[79, 84, 89, 94, 99, 104, 109, 114, 119, 124, 129, 134, 139, 144, 149, 154], 79) := by decide +kernel
theorem dX6_many_80 : decode cX6_many 80 = .ok (.aload_n 0, 1) := by decide +kernel
theorem dX6_many_81 : decode cX6_many 81 = .ok (.getfield 61, 3) := by decide +kernel
theorem dX6_many_84 : decode cX6_many 84 = .ok (.ireturn, 1) := by decide +kernel
theorem dX6_many_85 : decode cX6_many 85 = .ok (.aload_n 0, 1) := by decide +kernel
theorem dX6_many_86 : decode cX6_many 86 = .ok (.getfield 48, 3) := by decide +kernel
theorem dX6_many_89 : decode cX6_many 89 = .ok (.ireturn, 1) := by decide +kernel
theorem dX6_many_90 : decode cX6_many 90 = .ok (.aload_n 0, 1) := by decide +kernel
theorem dX6_many_91 : decode cX6_many 91 = .ok (.getfield 52, 3) := by decide +kernel
theorem dX6_many_94 : decode cX6_many 94 = .ok (.ireturn, 1) := by decide +kernel
theorem dX6_many_95 : decode cX6_many 95 = .ok (.aload_n 0, 1) := by decide +kernel
theorem dX6_many_96 : decode cX6_many 96 = .ok (.getfield 55, 3) := by decide +kernel
theorem dX6_many_99 : decode cX6_many 99 = .ok (.ireturn, 1) := by decide +kernel
theorem dX6_many_100 : decode cX6_many 100 = .ok (.aload_n 0, 1) := by decide +kernel
theorem dX6_many_101 : decode cX6_many 101 = .ok (.getfield 58, 3) := by decide +kernel
theorem dX6_many_104 : decode cX6_many 104 = .ok (.ireturn, 1) := by decide +kernel
theorem dX6_many_105 : decode cX6_many 105 = .ok (.aload_n 0, 1) := by decide +kernel
theorem dX6_many_106 : decode cX6_many 106 = .ok (.invokevirtual 328, 3) := by decide +kernel
theorem dX6_many_109 : decode cX6_many 109 = .ok (.ireturn, 1) := by decide +kernel
theorem dX6_many_110 : decode cX6_many 110 = .ok (.aload_n 0, 1) := by decide +kernel
theorem dX6_many_111 : decode cX6_many 111 = .ok (.getfield 64, 3) := by decide +kernel
theorem dX6_many_114 : decode cX6_many 114 = .ok (.ireturn, 1) := by decide +kernel
theorem dX6_many_115 : decode cX6_many 115 = .ok (.aload_n 0, 1) := by decide +kernel
theorem dX6_many_116 : decode cX6_many 116 = .ok (.getfield 70, 3) := by decide +kernel
theorem dX6_many_119 : decode cX6_many 119 = .ok (.ireturn, 1) := by decide +kernel
theorem dX6_many_120 : decode cX6_many 120 = .ok (.aload_n 0, 1) := by decide +kernel
theorem dX6_many_121 : decode cX6_many 121 = .ok (.invokevirtual 331, 3) := by decide +kernel
theorem dX6_many_124 : decode cX6_many 124 = .ok (.ireturn, 1) := by decide +kernel
theorem dX6_many_125 : decode cX6_many 125 = .ok (.aload_n 0, 1) := by decide +kernel
theorem dX6_many_126 : decode cX6_many 126 = .ok (.invokevirtual 334, 3) := by decide +kernel
theorem dX6_many_129 : decode cX6_many 129 = .ok (.ireturn, 1) := by decide +kernel
theorem dX6_many_130 : decode cX6_many 130 = .ok (.aload_n 0, 1) := by decide +kernel
theorem dX6_many_131 : decode cX6_many 131 = .ok (.invokevirtual 337, 3) := by decide +kernel
theorem dX6_many_134 : decode cX6_many 134 = .ok (.ireturn, 1) := by decide +kernel
theorem dX6_many_135 : decode cX6_many 135 = .ok (.aload_n 0, 1) := by decide +kernel
theorem dX6_many_136 : decode cX6_many 136 = .ok (.invokevirtual 340, 3) := by decide +kernel
theorem dX6_many_139 : decode cX6_many 139 = .ok (.ireturn, 1) := by decide +kernel
theorem dX6_many_140 : decode cX6_many 140 = .ok (.aload_n 0, 1) := by decide +kernel
theorem dX6_many_141 : decode cX6_many 141 = .ok (.getfield 73, 3) := by decide +kernel
theorem dX6_many_144 : decode cX6_many 144 = .ok (.ireturn, 1) := by decide +kernel
theorem dX6_many_145 : decode cX6_many 145 = .ok (.aload_n 0, 1) := by decide +kernel
theorem dX6_many_146 : decode cX6_many 146 = .ok (.getfield 76, 3) := by decide +kernel
theorem dX6_many_149 : decode cX6_many 149 = .ok (.ireturn, 1) := by decide +kernel
theorem dX6_many_150 : decode cX6_many 150 = .ok (.aload_n 0, 1) := by decide +kernel
theorem dX6_many_151 : decode cX6_many 151 = .ok (.getfield 79, 3) := by decide +kernel
theorem dX6_many_154 : decode cX6_many 154 = .ok (.ireturn, 1) := by decide +kernel
theorem dX6_many_155 : decode cX6_many 155 = .ok (.aload_n 0, 1) := by decide +kernel
theorem dX6_many_156 : decode cX6_many 156 = .ok (.invokevirtual 343, 3) := by decide +kernel
theorem dX6_many_159 : decode cX6_many 159 = .ok (.ireturn, 1) := by decide +kernel
theorem dX6_many_160 : decode cX6_many 160 = .ok (.new 86, 3) := by decide +kernel
theorem dX6_many_163 : decode cX6_many 163 = .ok (.dup, 1) := by decide +kernel
theorem dX6_many_164 : decode cX6_many 164 = .ok (.ldc_w 346, 3) := by decide +kernel
theorem dX6_many_167 : decode cX6_many 167 = .ok (.invokespecial 90, 3) := by decide +kernel
theorem dX6_many_170 : decode cX6_many 170 = .ok (.athrow, 1) := by decide +kernel
theorem dX6_readyIn_0 : decode cX6_readyIn 0 = .ok (.aload_n 0, 1) := by decide +kernel
theorem dX6_readyIn_1 : decode cX6_readyIn 1 = .ok (.iload_n 1, 1) := by decide +kernel
theorem dX6_readyIn_2 : decode cX6_readyIn 2 = .ok (.invokevirtual 145, 3) := by decide +kernel
theorem dX6_readyIn_5 : decode cX6_readyIn 5 = .ok (.astore_n 3, 1) := by decide +kernel
theorem dX6_readyIn_6 : decode cX6_readyIn 6 = .ok (.iload_n 2, 1) := by decide +kernel
theorem dX6_readyIn_7 : decode cX6_readyIn 7 = .ok (.invokestatic 348, 3) := by decide +kernel
theorem dX6_readyIn_10 : decode cX6_readyIn 10 = .ok (.aload_n 3, 1) := by decide +kernel
theorem dX6_readyIn_11 : decode cX6_readyIn 11 = .ok (.getfield 161, 3) := by decide +kernel
theorem dX6_readyIn_14 : decode cX6_readyIn 14 = .ok (.invokevirtual 176, 3) := by decide +kernel
theorem dX6_readyIn_17 : decode cX6_readyIn 17 = .ok (.ifCond .eq 5, 3) := by decide +kernel
theorem dX6_readyIn_20 : decode cX6_readyIn 20 = .ok (.iconst (-1), 1) := by decide +kernel
theorem dX6_readyIn_21 : decode cX6_readyIn 21 = .ok (.ireturn, 1) := by decide +kernel
theorem dX6_readyIn_22 : decode cX6_readyIn 22 = .ok (.iconst 0, 1) := by decide +kernel
theorem dX6_readyIn_23 : decode cX6_readyIn 23 = .ok (.istore 4, 2) := by decide +kernel
theorem dX6_readyIn_25 : decode cX6_readyIn 25 = .ok (.iload 4, 2) := by decide +kernel
theorem dX6_readyIn_27 : decode cX6_readyIn 27 = .ok (.sipush 200, 3) := by decide +kernel
