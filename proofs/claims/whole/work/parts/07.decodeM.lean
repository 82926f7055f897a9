theorem d_Mo_init_0 : decode prog_8_method_1_code 0 = .ok (.aload_n 0, 1) := by decide +kernel
theorem d_Mo_init_1 : decode prog_8_method_1_code 1 = .ok (.invokespecial 1, 3) := by decide +kernel
theorem d_Mo_init_4 : decode prog_8_method_1_code 4 = .ok (.aload_n 0, 1) := by decide +kernel
theorem d_Mo_init_5 : decode prog_8_method_1_code 5 = .ok (.bipush 32, 2) := by decide +kernel
theorem d_Mo_init_7 : decode prog_8_method_1_code 7 = .ok (.newarray .long, 2) := by decide +kernel
theorem d_Mo_init_9 : decode prog_8_method_1_code 9 = .ok (.putfield 7, 3) := by decide +kernel
theorem d_Mo_init_12 : decode prog_8_method_1_code 12 = .ok (.aload_n 0, 1) := by decide +kernel
theorem d_Mo_init_13 : decode prog_8_method_1_code 13 = .ok (.bipush 32, 2) := by decide +kernel
theorem d_Mo_init_15 : decode prog_8_method_1_code 15 = .ok (.newarray .long, 2) := by decide +kernel
theorem d_Mo_init_17 : decode prog_8_method_1_code 17 = .ok (.putfield 13, 3) := by decide +kernel
theorem d_Mo_init_20 : decode prog_8_method_1_code 20 = .ok (.aload_n 0, 1) := by decide +kernel
theorem d_Mo_init_21 : decode prog_8_method_1_code 21 = .ok (.bipush 16, 2) := by decide +kernel
theorem d_Mo_init_23 : decode prog_8_method_1_code 23 = .ok (.newarray .int, 2) := by decide +kernel
theorem d_Mo_init_25 : decode prog_8_method_1_code 25 = .ok (.putfield 16, 3) := by decide +kernel
theorem d_Mo_init_28 : decode prog_8_method_1_code 28 = .ok (.aload_n 0, 1) := by decide +kernel
theorem d_Mo_init_29 : decode prog_8_method_1_code 29 = .ok (.sipush 2048, 3) := by decide +kernel
theorem d_Mo_init_32 : decode prog_8_method_1_code 32 = .ok (.newarray .long, 2) := by decide +kernel
theorem d_Mo_init_34 : decode prog_8_method_1_code 34 = .ok (.putfield 20, 3) := by decide +kernel
theorem d_Mo_init_37 : decode prog_8_method_1_code 37 = .ok (.aload_n 0, 1) := by decide +kernel
theorem d_Mo_init_38 : decode prog_8_method_1_code 38 = .ok (.sipush 1024, 3) := by decide +kernel
theorem d_Mo_init_41 : decode prog_8_method_1_code 41 = .ok (.newarray .int, 2) := by decide +kernel
theorem d_Mo_init_43 : decode prog_8_method_1_code 43 = .ok (.putfield 23, 3) := by decide +kernel
theorem d_Mo_init_46 : decode prog_8_method_1_code 46 = .ok (.aload_n 0, 1) := by decide +kernel
theorem d_Mo_init_47 : decode prog_8_method_1_code 47 = .ok (.sipush 1024, 3) := by decide +kernel
theorem d_Mo_init_50 : decode prog_8_method_1_code 50 = .ok (.newarray .boolean, 2) := by decide +kernel
theorem d_Mo_init_52 : decode prog_8_method_1_code 52 = .ok (.putfield 26, 3) := by decide +kernel
theorem d_Mo_init_55 : decode prog_8_method_1_code 55 = .ok (.aload_n 0, 1) := by decide +kernel
theorem d_Mo_init_56 : decode prog_8_method_1_code 56 = .ok (.sipush 300, 3) := by decide +kernel
theorem d_Mo_init_59 : decode prog_8_method_1_code 59 = .ok (.newarray .int, 2) := by decide +kernel
theorem d_Mo_init_61 : decode prog_8_method_1_code 61 = .ok (.putfield 30, 3) := by decide +kernel
theorem d_Mo_init_64 : decode prog_8_method_1_code 64 = .ok (.aload_n 0, 1) := by decide +kernel
theorem d_Mo_init_65 : decode prog_8_method_1_code 65 = .ok (.sipush 300, 3) := by decide +kernel
theorem d_Mo_init_68 : decode prog_8_method_1_code 68 = .ok (.newarray .int, 2) := by decide +kernel
theorem d_Mo_init_70 : decode prog_8_method_1_code 70 = .ok (.putfield 33, 3) := by decide +kernel
theorem d_Mo_init_73 : decode prog_8_method_1_code 73 = .ok (.aload_n 0, 1) := by decide +kernel
theorem d_Mo_init_74 : decode prog_8_method_1_code 74 = .ok (.sipush 300, 3) := by decide +kernel
theorem d_Mo_init_77 : decode prog_8_method_1_code 77 = .ok (.newarray .int, 2) := by decide +kernel
theorem d_Mo_init_79 : decode prog_8_method_1_code 79 = .ok (.putfield 36, 3) := by decide +kernel
theorem d_Mo_init_82 : decode prog_8_method_1_code 82 = .ok (.aload_n 0, 1) := by decide +kernel
theorem d_Mo_init_83 : decode prog_8_method_1_code 83 = .ok (.sipush 300, 3) := by decide +kernel
theorem d_Mo_init_86 : decode prog_8_method_1_code 86 = .ok (.newarray .int, 2) := by decide +kernel
theorem d_Mo_init_88 : decode prog_8_method_1_code 88 = .ok (.putfield 39, 3) := by decide +kernel
theorem d_Mo_init_91 : decode prog_8_method_1_code 91 = .ok (.aload_n 0, 1) := by decide +kernel
theorem d_Mo_init_92 : decode prog_8_method_1_code 92 = .ok (.sipush 300, 3) := by decide +kernel
theorem d_Mo_init_95 : decode prog_8_method_1_code 95 = .ok (.newarray .long, 2) := by decide +kernel
theorem d_Mo_init_97 : decode prog_8_method_1_code 97 = .ok (.putfield 42, 3) := by decide +kernel
theorem d_Mo_init_100 : decode prog_8_method_1_code 100 = .ok (.aload_n 0, 1) := by decide +kernel
theorem d_Mo_init_101 : decode prog_8_method_1_code 101 = .ok (.bipush 8, 2) := by decide +kernel
theorem d_Mo_init_103 : decode prog_8_method_1_code 103 = .ok (.newarray .int, 2) := by decide +kernel
theorem d_Mo_init_105 : decode prog_8_method_1_code 105 = .ok (.putfield 45, 3) := by decide +kernel
theorem d_Mo_init_108 : decode prog_8_method_1_code 108 = .ok (.aload_n 0, 1) := by decide +kernel
theorem d_Mo_init_109 : decode prog_8_method_1_code 109 = .ok (.bipush 8, 2) := by decide +kernel
theorem d_Mo_init_111 : decode prog_8_method_1_code 111 = .ok (.newarray .boolean, 2) := by decide +kernel
theorem d_Mo_init_113 : decode prog_8_method_1_code 113 = .ok (.putfield 48, 3) := by decide +kernel
theorem d_Mo_init_116 : decode prog_8_method_1_code 116 = .ok (.aload_n 0, 1) := by decide +kernel
theorem d_Mo_init_117 : decode prog_8_method_1_code 117 = .ok (.bipush 8, 2) := by decide +kernel
theorem d_Mo_init_119 : decode prog_8_method_1_code 119 = .ok (.newarray .int, 2) := by decide +kernel
theorem d_Mo_init_121 : decode prog_8_method_1_code 121 = .ok (.putfield 51, 3) := by decide +kernel
theorem d_Mo_init_124 : decode prog_8_method_1_code 124 = .ok (.aload_n 0, 1) := by decide +kernel
theorem d_Mo_init_125 : decode prog_8_method_1_code 125 = .ok (.sipush 512, 3) := by decide +kernel
theorem d_Mo_init_128 : decode prog_8_method_1_code 128 = .ok (.newarray .int, 2) := by decide +kernel
theorem d_Mo_init_130 : decode prog_8_method_1_code 130 = .ok (.putfield 54, 3) := by decide +kernel
theorem d_Mo_init_133 : decode prog_8_method_1_code 133 = .ok (.aload_n 0, 1) := by decide +kernel
theorem d_Mo_init_134 : decode prog_8_method_1_code 134 = .ok (.sipush 512, 3) := by decide +kernel
theorem d_Mo_init_137 : decode prog_8_method_1_code 137 = .ok (.newarray .int, 2) := by decide +kernel
theorem d_Mo_init_139 : decode prog_8_method_1_code 139 = .ok (.putfield 57, 3) := by decide +kernel
theorem d_Mo_init_142 : decode prog_8_method_1_code 142 = .ok (.aload_n 0, 1) := by decide +kernel
theorem d_Mo_init_143 : decode prog_8_method_1_code 143 = .ok (.sipush 512, 3) := by decide +kernel
theorem d_Mo_init_146 : decode prog_8_method_1_code 146 = .ok (.newarray .int, 2) := by decide +kernel
theorem d_Mo_init_148 : decode prog_8_method_1_code 148 = .ok (.putfield 60, 3) := by decide +kernel
theorem d_Mo_init_151 : decode prog_8_method_1_code 151 = .ok (.aload_n 0, 1) := by decide +kernel
theorem d_Mo_init_152 : decode prog_8_method_1_code 152 = .ok (.bipush 8, 2) := by decide +kernel
theorem d_Mo_init_154 : decode prog_8_method_1_code 154 = .ok (.newarray .boolean, 2) := by decide +kernel
theorem d_Mo_init_156 : decode prog_8_method_1_code 156 = .ok (.putfield 63, 3) := by decide +kernel
theorem d_Mo_init_159 : decode prog_8_method_1_code 159 = .ok (.aload_n 0, 1) := by decide +kernel
theorem d_Mo_init_160 : decode prog_8_method_1_code 160 = .ok (.bipush 8, 2) := by decide +kernel
theorem d_Mo_init_162 : decode prog_8_method_1_code 162 = .ok (.newarray .boolean, 2) := by decide +kernel
theorem d_Mo_init_164 : decode prog_8_method_1_code 164 = .ok (.putfield 66, 3) := by decide +kernel
theorem d_Mo_init_167 : decode prog_8_method_1_code 167 = .ok (.aload_n 0, 1) := by decide +kernel
theorem d_Mo_init_168 : decode prog_8_method_1_code 168 = .ok (.bipush 8, 2) := by decide +kernel
theorem d_Mo_init_170 : decode prog_8_method_1_code 170 = .ok (.newarray .boolean, 2) := by decide +kernel
theorem d_Mo_init_172 : decode prog_8_method_1_code 172 = .ok (.putfield 69, 3) := by decide +kernel
theorem d_Mo_init_175 : decode prog_8_method_1_code 175 = .ok (.aload_n 0, 1) := by decide +kernel
theorem d_Mo_init_176 : decode prog_8_method_1_code 176 = .ok (.sipush 128, 3) := by decide +kernel
theorem d_Mo_init_179 : decode prog_8_method_1_code 179 = .ok (.newarray .boolean, 2) := by decide +kernel
theorem d_Mo_init_181 : decode prog_8_method_1_code 181 = .ok (.putfield 72, 3) := by decide +kernel
theorem d_Mo_init_184 : decode prog_8_method_1_code 184 = .ok (.aload_n 0, 1) := by decide +kernel
theorem d_Mo_init_185 : decode prog_8_method_1_code 185 = .ok (.iload_n 1, 1) := by decide +kernel
theorem d_Mo_init_186 : decode prog_8_method_1_code 186 = .ok (.iconst 1, 1) := by decide +kernel
theorem d_Mo_init_187 : decode prog_8_method_1_code 187 = .ok (.if_icmp .ge 7, 3) := by decide +kernel
theorem d_Mo_init_190 : decode prog_8_method_1_code 190 = .ok (.iconst 1, 1) := by decide +kernel
theorem d_Mo_init_191 : decode prog_8_method_1_code 191 = .ok (.goto 15, 3) := by decide +kernel
theorem d_Mo_init_194 : decode prog_8_method_1_code 194 = .ok (.iload_n 1, 1) := by decide +kernel
theorem d_Mo_init_195 : decode prog_8_method_1_code 195 = .ok (.bipush 8, 2) := by decide +kernel
theorem d_Mo_init_197 : decode prog_8_method_1_code 197 = .ok (.if_icmp .le 8, 3) := by decide +kernel
theorem d_Mo_init_200 : decode prog_8_method_1_code 200 = .ok (.bipush 8, 2) := by decide +kernel
theorem d_Mo_init_202 : decode prog_8_method_1_code 202 = .ok (.goto 4, 3) := by decide +kernel
theorem d_Mo_init_205 : decode prog_8_method_1_code 205 = .ok (.iload_n 1, 1) := by decide +kernel
theorem d_Mo_init_206 : decode prog_8_method_1_code 206 = .ok (.putfield 75, 3) := by decide +kernel
theorem d_Mo_init_209 : decode prog_8_method_1_code 209 = .ok (.iconst 0, 1) := by decide +kernel
theorem d_Mo_init_210 : decode prog_8_method_1_code 210 = .ok (.istore_n 2, 1) := by decide +kernel
theorem d_Mo_init_211 : decode prog_8_method_1_code 211 = .ok (.iload_n 2, 1) := by decide +kernel
theorem d_Mo_init_212 : decode prog_8_method_1_code 212 = .ok (.bipush 16, 2) := by decide +kernel
theorem d_Mo_init_214 : decode prog_8_method_1_code 214 = .ok (.if_icmp .ge 16, 3) := by decide +kernel
theorem d_Mo_init_217 : decode prog_8_method_1_code 217 = .ok (.aload_n 0, 1) := by decide +kernel
theorem d_Mo_init_218 : decode prog_8_method_1_code 218 = .ok (.getfield 16, 3) := by decide +kernel
theorem d_Mo_init_221 : decode prog_8_method_1_code 221 = .ok (.iload_n 2, 1) := by decide +kernel
theorem d_Mo_init_222 : decode prog_8_method_1_code 222 = .ok (.iconst (-1), 1) := by decide +kernel
theorem d_Mo_init_223 : decode prog_8_method_1_code 223 = .ok (.iastore, 1) := by decide +kernel
theorem d_Mo_init_224 : decode prog_8_method_1_code 224 = .ok (.iinc 2 1, 3) := by decide +kernel
theorem d_Mo_init_227 : decode prog_8_method_1_code 227 = .ok (.goto (-16), 3) := by decide +kernel
theorem d_Mo_init_230 : decode prog_8_method_1_code 230 = .ok (.iconst 0, 1) := by decide +kernel
theorem d_Mo_init_231 : decode prog_8_method_1_code 231 = .ok (.istore_n 2, 1) := by decide +kernel
theorem d_Mo_init_232 : decode prog_8_method_1_code 232 = .ok (.iload_n 2, 1) := by decide +kernel
theorem d_Mo_init_233 : decode prog_8_method_1_code 233 = .ok (.bipush 8, 2) := by decide +kernel
theorem d_Mo_init_235 : decode prog_8_method_1_code 235 = .ok (.if_icmp .ge 16, 3) := by decide +kernel
theorem d_Mo_init_238 : decode prog_8_method_1_code 238 = .ok (.aload_n 0, 1) := by decide +kernel
theorem d_Mo_init_239 : decode prog_8_method_1_code 239 = .ok (.getfield 51, 3) := by decide +kernel
theorem d_Mo_init_242 : decode prog_8_method_1_code 242 = .ok (.iload_n 2, 1) := by decide +kernel
theorem d_Mo_init_243 : decode prog_8_method_1_code 243 = .ok (.iconst (-1), 1) := by decide +kernel
theorem d_Mo_init_244 : decode prog_8_method_1_code 244 = .ok (.iastore, 1) := by decide +kernel
theorem d_Mo_init_245 : decode prog_8_method_1_code 245 = .ok (.iinc 2 1, 3) := by decide +kernel
theorem d_Mo_init_248 : decode prog_8_method_1_code 248 = .ok (.goto (-16), 3) := by decide +kernel
theorem d_Mo_init_251 : decode prog_8_method_1_code 251 = .ok (.return_, 1) := by decide +kernel
theorem d_Mo_isIn_0 : decode prog_8_method_2_code 0 = .ok (.iload_n 0, 1) := by decide +kernel
theorem d_Mo_isIn_1 : decode prog_8_method_2_code 1 = .ok (.iload_n 1, 1) := by decide +kernel
theorem d_Mo_isIn_2 : decode prog_8_method_2_code 2 = .ok (.if_icmp .lt 12, 3) := by decide +kernel
theorem d_Mo_isIn_5 : decode prog_8_method_2_code 5 = .ok (.iload_n 0, 1) := by decide +kernel
theorem d_Mo_isIn_6 : decode prog_8_method_2_code 6 = .ok (.iload_n 2, 1) := by decide +kernel
theorem d_Mo_isIn_7 : decode prog_8_method_2_code 7 = .ok (.if_icmp .gt 7, 3) := by decide +kernel
theorem d_Mo_isIn_10 : decode prog_8_method_2_code 10 = .ok (.iconst 1, 1) := by decide +kernel
theorem d_Mo_isIn_11 : decode prog_8_method_2_code 11 = .ok (.goto 4, 3) := by decide +kernel
theorem d_Mo_isIn_14 : decode prog_8_method_2_code 14 = .ok (.iconst 0, 1) := by decide +kernel
theorem d_Mo_isIn_15 : decode prog_8_method_2_code 15 = .ok (.ireturn, 1) := by decide +kernel
theorem d_Mo_isUnit_0 : decode prog_8_method_3_code 0 = .ok (.iload_n 1, 1) := by decide +kernel
theorem d_Mo_isUnit_1 : decode prog_8_method_3_code 1 = .ok (.iconst 0, 1) := by decide +kernel
theorem d_Mo_isUnit_2 : decode prog_8_method_3_code 2 = .ok (.aload_n 0, 1) := by decide +kernel
theorem d_Mo_isUnit_3 : decode prog_8_method_3_code 3 = .ok (.getfield 75, 3) := by decide +kernel
theorem d_Mo_isUnit_6 : decode prog_8_method_3_code 6 = .ok (.iconst 1, 1) := by decide +kernel
theorem d_Mo_isUnit_7 : decode prog_8_method_3_code 7 = .ok (.isub, 1) := by decide +kernel
theorem d_Mo_isUnit_8 : decode prog_8_method_3_code 8 = .ok (.invokestatic 79, 3) := by decide +kernel
theorem d_Mo_isUnit_11 : decode prog_8_method_3_code 11 = .ok (.ireturn, 1) := by decide +kernel
theorem d_Mo_isOpen_0 : decode prog_8_method_4_code 0 = .ok (.aload_n 0, 1) := by decide +kernel
theorem d_Mo_isOpen_1 : decode prog_8_method_4_code 1 = .ok (.getfield 83, 3) := by decide +kernel
theorem d_Mo_isOpen_4 : decode prog_8_method_4_code 4 = .ok (.ifCond .ne 27, 3) := by decide +kernel
theorem d_Mo_isOpen_7 : decode prog_8_method_4_code 7 = .ok (.iload_n 2, 1) := by decide +kernel
theorem d_Mo_isOpen_8 : decode prog_8_method_4_code 8 = .ok (.aload_n 0, 1) := by decide +kernel
theorem d_Mo_isOpen_9 : decode prog_8_method_4_code 9 = .ok (.getfield 45, 3) := by decide +kernel
theorem d_Mo_isOpen_12 : decode prog_8_method_4_code 12 = .ok (.iload_n 1, 1) := by decide +kernel
theorem d_Mo_isOpen_13 : decode prog_8_method_4_code 13 = .ok (.iaload, 1) := by decide +kernel
theorem d_Mo_isOpen_14 : decode prog_8_method_4_code 14 = .ok (.if_icmp .lt 17, 3) := by decide +kernel
theorem d_Mo_isOpen_17 : decode prog_8_method_4_code 17 = .ok (.aload_n 0, 1) := by decide +kernel
theorem d_Mo_isOpen_18 : decode prog_8_method_4_code 18 = .ok (.getfield 87, 3) := by decide +kernel
theorem d_Mo_isOpen_21 : decode prog_8_method_4_code 21 = .ok (.sipush 300, 3) := by decide +kernel
theorem d_Mo_isOpen_24 : decode prog_8_method_4_code 24 = .ok (.if_icmp .ge 7, 3) := by decide +kernel
theorem d_Mo_isOpen_27 : decode prog_8_method_4_code 27 = .ok (.iconst 1, 1) := by decide +kernel
theorem d_Mo_isOpen_28 : decode prog_8_method_4_code 28 = .ok (.goto 4, 3) := by decide +kernel
theorem d_Mo_isOpen_31 : decode prog_8_method_4_code 31 = .ok (.iconst 0, 1) := by decide +kernel
theorem d_Mo_isOpen_32 : decode prog_8_method_4_code 32 = .ok (.ireturn, 1) := by decide +kernel
theorem d_Mo_add_0 : decode prog_8_method_5_code 0 = .ok (.aload_n 0, 1) := by decide +kernel
theorem d_Mo_add_1 : decode prog_8_method_5_code 1 = .ok (.getfield 30, 3) := by decide +kernel
theorem d_Mo_add_4 : decode prog_8_method_5_code 4 = .ok (.aload_n 0, 1) := by decide +kernel
theorem d_Mo_add_5 : decode prog_8_method_5_code 5 = .ok (.getfield 87, 3) := by decide +kernel
theorem d_Mo_add_8 : decode prog_8_method_5_code 8 = .ok (.iload_n 1, 1) := by decide +kernel
theorem d_Mo_add_9 : decode prog_8_method_5_code 9 = .ok (.iastore, 1) := by decide +kernel
theorem d_Mo_add_10 : decode prog_8_method_5_code 10 = .ok (.aload_n 0, 1) := by decide +kernel
theorem d_Mo_add_11 : decode prog_8_method_5_code 11 = .ok (.getfield 33, 3) := by decide +kernel
theorem d_Mo_add_14 : decode prog_8_method_5_code 14 = .ok (.aload_n 0, 1) := by decide +kernel
theorem d_Mo_add_15 : decode prog_8_method_5_code 15 = .ok (.getfield 87, 3) := by decide +kernel
theorem d_Mo_add_18 : decode prog_8_method_5_code 18 = .ok (.iload_n 2, 1) := by decide +kernel
theorem d_Mo_add_19 : decode prog_8_method_5_code 19 = .ok (.iastore, 1) := by decide +kernel
theorem d_Mo_add_20 : decode prog_8_method_5_code 20 = .ok (.aload_n 0, 1) := by decide +kernel
theorem d_Mo_add_21 : decode prog_8_method_5_code 21 = .ok (.getfield 36, 3) := by decide +kernel
theorem d_Mo_add_24 : decode prog_8_method_5_code 24 = .ok (.aload_n 0, 1) := by decide +kernel
theorem d_Mo_add_25 : decode prog_8_method_5_code 25 = .ok (.getfield 87, 3) := by decide +kernel
theorem d_Mo_add_28 : decode prog_8_method_5_code 28 = .ok (.iload_n 3, 1) := by decide +kernel
theorem d_Mo_add_29 : decode prog_8_method_5_code 29 = .ok (.iastore, 1) := by decide +kernel
theorem d_Mo_add_30 : decode prog_8_method_5_code 30 = .ok (.aload_n 0, 1) := by decide +kernel
theorem d_Mo_add_31 : decode prog_8_method_5_code 31 = .ok (.getfield 39, 3) := by decide +kernel
theorem d_Mo_add_34 : decode prog_8_method_5_code 34 = .ok (.aload_n 0, 1) := by decide +kernel
theorem d_Mo_add_35 : decode prog_8_method_5_code 35 = .ok (.getfield 87, 3) := by decide +kernel
theorem d_Mo_add_38 : decode prog_8_method_5_code 38 = .ok (.iload 4, 2) := by decide +kernel
theorem d_Mo_add_40 : decode prog_8_method_5_code 40 = .ok (.iastore, 1) := by decide +kernel
theorem d_Mo_add_41 : decode prog_8_method_5_code 41 = .ok (.aload_n 0, 1) := by decide +kernel
theorem d_Mo_add_42 : decode prog_8_method_5_code 42 = .ok (.getfield 42, 3) := by decide +kernel
theorem d_Mo_add_45 : decode prog_8_method_5_code 45 = .ok (.aload_n 0, 1) := by decide +kernel
theorem d_Mo_add_46 : decode prog_8_method_5_code 46 = .ok (.getfield 87, 3) := by decide +kernel
theorem d_Mo_add_49 : decode prog_8_method_5_code 49 = .ok (.lload 5, 2) := by decide +kernel
theorem d_Mo_add_51 : decode prog_8_method_5_code 51 = .ok (.lastore, 1) := by decide +kernel
theorem d_Mo_add_52 : decode prog_8_method_5_code 52 = .ok (.aload_n 0, 1) := by decide +kernel
theorem d_Mo_add_53 : decode prog_8_method_5_code 53 = .ok (.dup, 1) := by decide +kernel
theorem d_Mo_add_54 : decode prog_8_method_5_code 54 = .ok (.getfield 87, 3) := by decide +kernel
theorem d_Mo_add_57 : decode prog_8_method_5_code 57 = .ok (.iconst 1, 1) := by decide +kernel
theorem d_Mo_add_58 : decode prog_8_method_5_code 58 = .ok (.iadd, 1) := by decide +kernel
theorem d_Mo_add_59 : decode prog_8_method_5_code 59 = .ok (.putfield 87, 3) := by decide +kernel
theorem d_Mo_add_62 : decode prog_8_method_5_code 62 = .ok (.iconst 1, 1) := by decide +kernel
theorem d_Mo_add_63 : decode prog_8_method_5_code 63 = .ok (.ireturn, 1) := by decide +kernel
theorem d_Mo_find_0 : decode prog_8_method_6_code 0 = .ok (.iconst 0, 1) := by decide +kernel
theorem d_Mo_find_1 : decode prog_8_method_6_code 1 = .ok (.istore 5, 2) := by decide +kernel
theorem d_Mo_find_3 : decode prog_8_method_6_code 3 = .ok (.iload 5, 2) := by decide +kernel
theorem d_Mo_find_5 : decode prog_8_method_6_code 5 = .ok (.aload_n 0, 1) := by decide +kernel
theorem d_Mo_find_6 : decode prog_8_method_6_code 6 = .ok (.getfield 87, 3) := by decide +kernel
theorem d_Mo_find_9 : decode prog_8_method_6_code 9 = .ok (.if_icmp .ge 63, 3) := by decide +kernel
theorem d_Mo_find_12 : decode prog_8_method_6_code 12 = .ok (.aload_n 0, 1) := by decide +kernel
theorem d_Mo_find_13 : decode prog_8_method_6_code 13 = .ok (.getfield 30, 3) := by decide +kernel
theorem d_Mo_find_16 : decode prog_8_method_6_code 16 = .ok (.iload 5, 2) := by decide +kernel
theorem d_Mo_find_18 : decode prog_8_method_6_code 18 = .ok (.iaload, 1) := by decide +kernel
theorem d_Mo_find_19 : decode prog_8_method_6_code 19 = .ok (.iload_n 1, 1) := by decide +kernel
theorem d_Mo_find_20 : decode prog_8_method_6_code 20 = .ok (.if_icmp .ne 46, 3) := by decide +kernel
theorem d_Mo_find_23 : decode prog_8_method_6_code 23 = .ok (.aload_n 0, 1) := by decide +kernel
theorem d_Mo_find_24 : decode prog_8_method_6_code 24 = .ok (.getfield 33, 3) := by decide +kernel
theorem d_Mo_find_27 : decode prog_8_method_6_code 27 = .ok (.iload 5, 2) := by decide +kernel
theorem d_Mo_find_29 : decode prog_8_method_6_code 29 = .ok (.iaload, 1) := by decide +kernel
theorem d_Mo_find_30 : decode prog_8_method_6_code 30 = .ok (.iload_n 2, 1) := by decide +kernel
theorem d_Mo_find_31 : decode prog_8_method_6_code 31 = .ok (.if_icmp .ne 35, 3) := by decide +kernel
theorem d_Mo_find_34 : decode prog_8_method_6_code 34 = .ok (.aload_n 0, 1) := by decide +kernel
theorem d_Mo_find_35 : decode prog_8_method_6_code 35 = .ok (.getfield 36, 3) := by decide +kernel
theorem d_Mo_find_38 : decode prog_8_method_6_code 38 = .ok (.iload 5, 2) := by decide +kernel
theorem d_Mo_find_40 : decode prog_8_method_6_code 40 = .ok (.iaload, 1) := by decide +kernel
theorem d_Mo_find_41 : decode prog_8_method_6_code 41 = .ok (.iload_n 3, 1) := by decide +kernel
theorem d_Mo_find_42 : decode prog_8_method_6_code 42 = .ok (.if_icmp .ne 24, 3) := by decide +kernel
theorem d_Mo_find_45 : decode prog_8_method_6_code 45 = .ok (.iload 4, 2) := by decide +kernel
theorem d_Mo_find_47 : decode prog_8_method_6_code 47 = .ok (.iconst (-1), 1) := by decide +kernel
theorem d_Mo_find_48 : decode prog_8_method_6_code 48 = .ok (.if_icmp .eq 15, 3) := by decide +kernel
theorem d_Mo_find_51 : decode prog_8_method_6_code 51 = .ok (.aload_n 0, 1) := by decide +kernel
theorem d_Mo_find_52 : decode prog_8_method_6_code 52 = .ok (.getfield 39, 3) := by decide +kernel
theorem d_Mo_find_55 : decode prog_8_method_6_code 55 = .ok (.iload 5, 2) := by decide +kernel
theorem d_Mo_find_57 : decode prog_8_method_6_code 57 = .ok (.iaload, 1) := by decide +kernel
theorem d_Mo_find_58 : decode prog_8_method_6_code 58 = .ok (.iload 4, 2) := by decide +kernel
theorem d_Mo_find_60 : decode prog_8_method_6_code 60 = .ok (.if_icmp .ne 6, 3) := by decide +kernel
theorem d_Mo_find_63 : decode prog_8_method_6_code 63 = .ok (.iload 5, 2) := by decide +kernel
theorem d_Mo_find_65 : decode prog_8_method_6_code 65 = .ok (.ireturn, 1) := by decide +kernel
theorem d_Mo_find_66 : decode prog_8_method_6_code 66 = .ok (.iinc 5 1, 3) := by decide +kernel
theorem d_Mo_find_69 : decode prog_8_method_6_code 69 = .ok (.goto (-66), 3) := by decide +kernel
theorem d_Mo_find_72 : decode prog_8_method_6_code 72 = .ok (.iconst (-1), 1) := by decide +kernel
theorem d_Mo_find_73 : decode prog_8_method_6_code 73 = .ok (.ireturn, 1) := by decide +kernel
theorem d_Mo_step_0 : decode prog_8_method_7_code 0 = .ok (.aload_n 0, 1) := by decide +kernel
theorem d_Mo_step_1 : decode prog_8_method_7_code 1 = .ok (.iload_n 1, 1) := by decide +kernel
theorem d_Mo_step_2 : decode prog_8_method_7_code 2 = .ok (.invokevirtual 90, 3) := by decide +kernel
theorem d_Mo_step_5 : decode prog_8_method_7_code 5 = .ok (.ifCond .eq 38, 3) := by decide +kernel
theorem d_Mo_step_8 : decode prog_8_method_7_code 8 = .ok (.iload_n 2, 1) := by decide +kernel
theorem d_Mo_step_9 : decode prog_8_method_7_code 9 = .ok (.iconst 0, 1) := by decide +kernel
theorem d_Mo_step_10 : decode prog_8_method_7_code 10 = .ok (.sipush 200, 3) := by decide +kernel
theorem d_Mo_step_13 : decode prog_8_method_7_code 13 = .ok (.invokestatic 79, 3) := by decide +kernel
theorem d_Mo_step_16 : decode prog_8_method_7_code 16 = .ok (.ifCond .eq 27, 3) := by decide +kernel
theorem d_Mo_step_19 : decode prog_8_method_7_code 19 = .ok (.iload_n 3, 1) := by decide +kernel
theorem d_Mo_step_20 : decode prog_8_method_7_code 20 = .ok (.iconst 4, 1) := by decide +kernel
theorem d_Mo_step_21 : decode prog_8_method_7_code 21 = .ok (.iload_n 1, 1) := by decide +kernel
theorem d_Mo_step_22 : decode prog_8_method_7_code 22 = .ok (.imul, 1) := by decide +kernel
theorem d_Mo_step_23 : decode prog_8_method_7_code 23 = .ok (.iconst 4, 1) := by decide +kernel
theorem d_Mo_step_24 : decode prog_8_method_7_code 24 = .ok (.iload_n 1, 1) := by decide +kernel
theorem d_Mo_step_25 : decode prog_8_method_7_code 25 = .ok (.imul, 1) := by decide +kernel
theorem d_Mo_step_26 : decode prog_8_method_7_code 26 = .ok (.iconst 3, 1) := by decide +kernel
theorem d_Mo_step_27 : decode prog_8_method_7_code 27 = .ok (.iadd, 1) := by decide +kernel
theorem d_Mo_step_28 : decode prog_8_method_7_code 28 = .ok (.invokestatic 79, 3) := by decide +kernel
theorem d_Mo_step_31 : decode prog_8_method_7_code 31 = .ok (.ifCond .eq 12, 3) := by decide +kernel
theorem d_Mo_step_34 : decode prog_8_method_7_code 34 = .ok (.aload_n 0, 1) := by decide +kernel
theorem d_Mo_step_35 : decode prog_8_method_7_code 35 = .ok (.iload_n 1, 1) := by decide +kernel
theorem d_Mo_step_36 : decode prog_8_method_7_code 36 = .ok (.iload_n 2, 1) := by decide +kernel
theorem d_Mo_step_37 : decode prog_8_method_7_code 37 = .ok (.invokevirtual 94, 3) := by decide +kernel
theorem d_Mo_step_40 : decode prog_8_method_7_code 40 = .ok (.ifCond .ne 5, 3) := by decide +kernel
theorem d_Mo_step_43 : decode prog_8_method_7_code 43 = .ok (.iconst 0, 1) := by decide +kernel
theorem d_Mo_step_44 : decode prog_8_method_7_code 44 = .ok (.ireturn, 1) := by decide +kernel
theorem d_Mo_step_45 : decode prog_8_method_7_code 45 = .ok (.aload_n 0, 1) := by decide +kernel
theorem d_Mo_step_46 : decode prog_8_method_7_code 46 = .ok (.iconst 0, 1) := by decide +kernel
theorem d_Mo_step_47 : decode prog_8_method_7_code 47 = .ok (.iload_n 1, 1) := by decide +kernel
theorem d_Mo_step_48 : decode prog_8_method_7_code 48 = .ok (.iload_n 2, 1) := by decide +kernel
theorem d_Mo_step_49 : decode prog_8_method_7_code 49 = .ok (.iload_n 3, 1) := by decide +kernel
theorem d_Mo_step_50 : decode prog_8_method_7_code 50 = .ok (.lload 4, 2) := by decide +kernel
theorem d_Mo_step_52 : decode prog_8_method_7_code 52 = .ok (.invokevirtual 98, 3) := by decide +kernel
theorem d_Mo_step_55 : decode prog_8_method_7_code 55 = .ok (.ireturn, 1) := by decide +kernel
theorem d_Mo_asks_0 : decode prog_8_method_8_code 0 = .ok (.aload_n 0, 1) := by decide +kernel
theorem d_Mo_asks_1 : decode prog_8_method_8_code 1 = .ok (.iload_n 1, 1) := by decide +kernel
theorem d_Mo_asks_2 : decode prog_8_method_8_code 2 = .ok (.invokevirtual 90, 3) := by decide +kernel
theorem d_Mo_asks_5 : decode prog_8_method_8_code 5 = .ok (.ifCond .eq 44, 3) := by decide +kernel
theorem d_Mo_asks_8 : decode prog_8_method_8_code 8 = .ok (.iload_n 2, 1) := by decide +kernel
theorem d_Mo_asks_9 : decode prog_8_method_8_code 9 = .ok (.iconst 0, 1) := by decide +kernel
theorem d_Mo_asks_10 : decode prog_8_method_8_code 10 = .ok (.sipush 200, 3) := by decide +kernel
theorem d_Mo_asks_13 : decode prog_8_method_8_code 13 = .ok (.invokestatic 79, 3) := by decide +kernel
theorem d_Mo_asks_16 : decode prog_8_method_8_code 16 = .ok (.ifCond .eq 33, 3) := by decide +kernel
theorem d_Mo_asks_19 : decode prog_8_method_8_code 19 = .ok (.iload_n 3, 1) := by decide +kernel
theorem d_Mo_asks_20 : decode prog_8_method_8_code 20 = .ok (.iconst 0, 1) := by decide +kernel
theorem d_Mo_asks_21 : decode prog_8_method_8_code 21 = .ok (.bipush 15, 2) := by decide +kernel
theorem d_Mo_asks_23 : decode prog_8_method_8_code 23 = .ok (.invokestatic 79, 3) := by decide +kernel
theorem d_Mo_asks_26 : decode prog_8_method_8_code 26 = .ok (.ifCond .eq 23, 3) := by decide +kernel
theorem d_Mo_asks_29 : decode prog_8_method_8_code 29 = .ok (.aload_n 0, 1) := by decide +kernel
theorem d_Mo_asks_30 : decode prog_8_method_8_code 30 = .ok (.iload_n 1, 1) := by decide +kernel
theorem d_Mo_asks_31 : decode prog_8_method_8_code 31 = .ok (.iload_n 2, 1) := by decide +kernel
theorem d_Mo_asks_32 : decode prog_8_method_8_code 32 = .ok (.invokevirtual 94, 3) := by decide +kernel
theorem d_Mo_asks_35 : decode prog_8_method_8_code 35 = .ok (.ifCond .eq 14, 3) := by decide +kernel
theorem d_Mo_asks_38 : decode prog_8_method_8_code 38 = .ok (.aload_n 0, 1) := by decide +kernel
theorem d_Mo_asks_39 : decode prog_8_method_8_code 39 = .ok (.iconst 1, 1) := by decide +kernel
theorem d_Mo_asks_40 : decode prog_8_method_8_code 40 = .ok (.iload_n 1, 1) := by decide +kernel
theorem d_Mo_asks_41 : decode prog_8_method_8_code 41 = .ok (.iload_n 2, 1) := by decide +kernel
theorem d_Mo_asks_42 : decode prog_8_method_8_code 42 = .ok (.iload_n 3, 1) := by decide +kernel
theorem d_Mo_asks_43 : decode prog_8_method_8_code 43 = .ok (.invokevirtual 102, 3) := by decide +kernel
theorem d_Mo_asks_46 : decode prog_8_method_8_code 46 = .ok (.ifCond .lt 5, 3) := by decide +kernel
theorem d_Mo_asks_49 : decode prog_8_method_8_code 49 = .ok (.iconst 0, 1) := by decide +kernel
theorem d_Mo_asks_50 : decode prog_8_method_8_code 50 = .ok (.ireturn, 1) := by decide +kernel
theorem d_Mo_asks_51 : decode prog_8_method_8_code 51 = .ok (.aload_n 0, 1) := by decide +kernel
theorem d_Mo_asks_52 : decode prog_8_method_8_code 52 = .ok (.iconst 1, 1) := by decide +kernel
theorem d_Mo_asks_53 : decode prog_8_method_8_code 53 = .ok (.iload_n 1, 1) := by decide +kernel
theorem d_Mo_asks_54 : decode prog_8_method_8_code 54 = .ok (.iload_n 2, 1) := by decide +kernel
theorem d_Mo_asks_55 : decode prog_8_method_8_code 55 = .ok (.iload_n 3, 1) := by decide +kernel
theorem d_Mo_asks_56 : decode prog_8_method_8_code 56 = .ok (.lconst 0, 1) := by decide +kernel
theorem d_Mo_asks_57 : decode prog_8_method_8_code 57 = .ok (.invokevirtual 98, 3) := by decide +kernel
theorem d_Mo_asks_60 : decode prog_8_method_8_code 60 = .ok (.ireturn, 1) := by decide +kernel
theorem d_Mo_throwsAt_0 : decode prog_8_method_9_code 0 = .ok (.aload_n 0, 1) := by decide +kernel
theorem d_Mo_throwsAt_1 : decode prog_8_method_9_code 1 = .ok (.iload_n 1, 1) := by decide +kernel
theorem d_Mo_throwsAt_2 : decode prog_8_method_9_code 2 = .ok (.invokevirtual 90, 3) := by decide +kernel
theorem d_Mo_throwsAt_5 : decode prog_8_method_9_code 5 = .ok (.ifCond .eq 34, 3) := by decide +kernel
theorem d_Mo_throwsAt_8 : decode prog_8_method_9_code 8 = .ok (.iload_n 2, 1) := by decide +kernel
theorem d_Mo_throwsAt_9 : decode prog_8_method_9_code 9 = .ok (.iconst 0, 1) := by decide +kernel
theorem d_Mo_throwsAt_10 : decode prog_8_method_9_code 10 = .ok (.sipush 200, 3) := by decide +kernel
theorem d_Mo_throwsAt_13 : decode prog_8_method_9_code 13 = .ok (.invokestatic 79, 3) := by decide +kernel
theorem d_Mo_throwsAt_16 : decode prog_8_method_9_code 16 = .ok (.ifCond .eq 23, 3) := by decide +kernel
theorem d_Mo_throwsAt_19 : decode prog_8_method_9_code 19 = .ok (.aload_n 0, 1) := by decide +kernel
theorem d_Mo_throwsAt_20 : decode prog_8_method_9_code 20 = .ok (.iload_n 1, 1) := by decide +kernel
theorem d_Mo_throwsAt_21 : decode prog_8_method_9_code 21 = .ok (.iload_n 2, 1) := by decide +kernel
theorem d_Mo_throwsAt_22 : decode prog_8_method_9_code 22 = .ok (.invokevirtual 94, 3) := by decide +kernel
theorem d_Mo_throwsAt_25 : decode prog_8_method_9_code 25 = .ok (.ifCond .eq 14, 3) := by decide +kernel
theorem d_Mo_throwsAt_28 : decode prog_8_method_9_code 28 = .ok (.aload_n 0, 1) := by decide +kernel
theorem d_Mo_throwsAt_29 : decode prog_8_method_9_code 29 = .ok (.iconst 2, 1) := by decide +kernel
theorem d_Mo_throwsAt_30 : decode prog_8_method_9_code 30 = .ok (.iload_n 1, 1) := by decide +kernel
theorem d_Mo_throwsAt_31 : decode prog_8_method_9_code 31 = .ok (.iload_n 2, 1) := by decide +kernel
theorem d_Mo_throwsAt_32 : decode prog_8_method_9_code 32 = .ok (.iconst (-1), 1) := by decide +kernel
theorem d_Mo_throwsAt_33 : decode prog_8_method_9_code 33 = .ok (.invokevirtual 102, 3) := by decide +kernel
theorem d_Mo_throwsAt_36 : decode prog_8_method_9_code 36 = .ok (.ifCond .lt 5, 3) := by decide +kernel
theorem d_Mo_throwsAt_39 : decode prog_8_method_9_code 39 = .ok (.iconst 0, 1) := by decide +kernel
theorem d_Mo_throwsAt_40 : decode prog_8_method_9_code 40 = .ok (.ireturn, 1) := by decide +kernel
theorem d_Mo_throwsAt_41 : decode prog_8_method_9_code 41 = .ok (.aload_n 0, 1) := by decide +kernel
theorem d_Mo_throwsAt_42 : decode prog_8_method_9_code 42 = .ok (.iconst 2, 1) := by decide +kernel
theorem d_Mo_throwsAt_43 : decode prog_8_method_9_code 43 = .ok (.iload_n 1, 1) := by decide +kernel
theorem d_Mo_throwsAt_44 : decode prog_8_method_9_code 44 = .ok (.iload_n 2, 1) := by decide +kernel
theorem d_Mo_throwsAt_45 : decode prog_8_method_9_code 45 = .ok (.iconst 0, 1) := by decide +kernel
theorem d_Mo_throwsAt_46 : decode prog_8_method_9_code 46 = .ok (.lconst 0, 1) := by decide +kernel
theorem d_Mo_throwsAt_47 : decode prog_8_method_9_code 47 = .ok (.invokevirtual 98, 3) := by decide +kernel
theorem d_Mo_throwsAt_50 : decode prog_8_method_9_code 50 = .ok (.ireturn, 1) := by decide +kernel
theorem d_Mo_safe_0 : decode prog_8_method_10_code 0 = .ok (.iload_n 1, 1) := by decide +kernel
theorem d_Mo_safe_1 : decode prog_8_method_10_code 1 = .ok (.iconst 0, 1) := by decide +kernel
theorem d_Mo_safe_2 : decode prog_8_method_10_code 2 = .ok (.iconst 4, 1) := by decide +kernel
theorem d_Mo_safe_3 : decode prog_8_method_10_code 3 = .ok (.aload_n 0, 1) := by decide +kernel
theorem d_Mo_safe_4 : decode prog_8_method_10_code 4 = .ok (.getfield 75, 3) := by decide +kernel
theorem d_Mo_safe_7 : decode prog_8_method_10_code 7 = .ok (.imul, 1) := by decide +kernel
theorem d_Mo_safe_8 : decode prog_8_method_10_code 8 = .ok (.iconst 1, 1) := by decide +kernel
theorem d_Mo_safe_9 : decode prog_8_method_10_code 9 = .ok (.isub, 1) := by decide +kernel
theorem d_Mo_safe_10 : decode prog_8_method_10_code 10 = .ok (.invokestatic 79, 3) := by decide +kernel
theorem d_Mo_safe_13 : decode prog_8_method_10_code 13 = .ok (.ifCond .eq 10, 3) := by decide +kernel
theorem d_Mo_safe_16 : decode prog_8_method_10_code 16 = .ok (.aload_n 0, 1) := by decide +kernel
theorem d_Mo_safe_17 : decode prog_8_method_10_code 17 = .ok (.getfield 83, 3) := by decide +kernel
theorem d_Mo_safe_20 : decode prog_8_method_10_code 20 = .ok (.ifCond .eq 5, 3) := by decide +kernel
theorem d_Mo_safe_23 : decode prog_8_method_10_code 23 = .ok (.iconst 0, 1) := by decide +kernel
theorem d_Mo_safe_24 : decode prog_8_method_10_code 24 = .ok (.ireturn, 1) := by decide +kernel
theorem d_Mo_safe_25 : decode prog_8_method_10_code 25 = .ok (.aload_n 0, 1) := by decide +kernel
theorem d_Mo_safe_26 : decode prog_8_method_10_code 26 = .ok (.getfield 13, 3) := by decide +kernel
theorem d_Mo_safe_29 : decode prog_8_method_10_code 29 = .ok (.iload_n 1, 1) := by decide +kernel
theorem d_Mo_safe_30 : decode prog_8_method_10_code 30 = .ok (.lload_n 2, 1) := by decide +kernel
theorem d_Mo_safe_31 : decode prog_8_method_10_code 31 = .ok (.lastore, 1) := by decide +kernel
theorem d_Mo_safe_32 : decode prog_8_method_10_code 32 = .ok (.iconst 1, 1) := by decide +kernel
theorem d_Mo_safe_33 : decode prog_8_method_10_code 33 = .ok (.ireturn, 1) := by decide +kernel
theorem d_Mo_bar_0 : decode prog_8_method_11_code 0 = .ok (.iload_n 1, 1) := by decide +kernel
theorem d_Mo_bar_1 : decode prog_8_method_11_code 1 = .ok (.iconst 0, 1) := by decide +kernel
theorem d_Mo_bar_2 : decode prog_8_method_11_code 2 = .ok (.bipush 15, 2) := by decide +kernel
theorem d_Mo_bar_4 : decode prog_8_method_11_code 4 = .ok (.invokestatic 79, 3) := by decide +kernel
theorem d_Mo_bar_7 : decode prog_8_method_11_code 7 = .ok (.ifCond .eq 42, 3) := by decide +kernel
theorem d_Mo_bar_10 : decode prog_8_method_11_code 10 = .ok (.iload_n 2, 1) := by decide +kernel
theorem d_Mo_bar_11 : decode prog_8_method_11_code 11 = .ok (.iconst 0, 1) := by decide +kernel
theorem d_Mo_bar_12 : decode prog_8_method_11_code 12 = .ok (.bipush 63, 2) := by decide +kernel
theorem d_Mo_bar_14 : decode prog_8_method_11_code 14 = .ok (.invokestatic 79, 3) := by decide +kernel
theorem d_Mo_bar_17 : decode prog_8_method_11_code 17 = .ok (.ifCond .eq 32, 3) := by decide +kernel
theorem d_Mo_bar_20 : decode prog_8_method_11_code 20 = .ok (.aload_n 0, 1) := by decide +kernel
theorem d_Mo_bar_21 : decode prog_8_method_11_code 21 = .ok (.getfield 83, 3) := by decide +kernel
theorem d_Mo_bar_24 : decode prog_8_method_11_code 24 = .ok (.ifCond .ne 25, 3) := by decide +kernel
theorem d_Mo_bar_27 : decode prog_8_method_11_code 27 = .ok (.iload_n 2, 1) := by decide +kernel
theorem d_Mo_bar_28 : decode prog_8_method_11_code 28 = .ok (.aload_n 0, 1) := by decide +kernel
theorem d_Mo_bar_29 : decode prog_8_method_11_code 29 = .ok (.getfield 106, 3) := by decide +kernel
theorem d_Mo_bar_32 : decode prog_8_method_11_code 32 = .ok (.if_icmp .lt 17, 3) := by decide +kernel
theorem d_Mo_bar_35 : decode prog_8_method_11_code 35 = .ok (.aload_n 0, 1) := by decide +kernel
theorem d_Mo_bar_36 : decode prog_8_method_11_code 36 = .ok (.getfield 26, 3) := by decide +kernel
theorem d_Mo_bar_39 : decode prog_8_method_11_code 39 = .ok (.bipush 16, 2) := by decide +kernel
theorem d_Mo_bar_41 : decode prog_8_method_11_code 41 = .ok (.iload_n 2, 1) := by decide +kernel
theorem d_Mo_bar_42 : decode prog_8_method_11_code 42 = .ok (.imul, 1) := by decide +kernel
theorem d_Mo_bar_43 : decode prog_8_method_11_code 43 = .ok (.iload_n 1, 1) := by decide +kernel
theorem d_Mo_bar_44 : decode prog_8_method_11_code 44 = .ok (.iadd, 1) := by decide +kernel
theorem d_Mo_bar_45 : decode prog_8_method_11_code 45 = .ok (.baload, 1) := by decide +kernel
theorem d_Mo_bar_46 : decode prog_8_method_11_code 46 = .ok (.ifCond .eq 5, 3) := by decide +kernel
theorem d_Mo_bar_49 : decode prog_8_method_11_code 49 = .ok (.iconst 0, 1) := by decide +kernel
theorem d_Mo_bar_50 : decode prog_8_method_11_code 50 = .ok (.ireturn, 1) := by decide +kernel
theorem d_Mo_bar_51 : decode prog_8_method_11_code 51 = .ok (.aload_n 0, 1) := by decide +kernel
theorem d_Mo_bar_52 : decode prog_8_method_11_code 52 = .ok (.getfield 26, 3) := by decide +kernel
theorem d_Mo_bar_55 : decode prog_8_method_11_code 55 = .ok (.bipush 16, 2) := by decide +kernel
theorem d_Mo_bar_57 : decode prog_8_method_11_code 57 = .ok (.iload_n 2, 1) := by decide +kernel
theorem d_Mo_bar_58 : decode prog_8_method_11_code 58 = .ok (.imul, 1) := by decide +kernel
theorem d_Mo_bar_59 : decode prog_8_method_11_code 59 = .ok (.iload_n 1, 1) := by decide +kernel
theorem d_Mo_bar_60 : decode prog_8_method_11_code 60 = .ok (.iadd, 1) := by decide +kernel
theorem d_Mo_bar_61 : decode prog_8_method_11_code 61 = .ok (.iconst 1, 1) := by decide +kernel
theorem d_Mo_bar_62 : decode prog_8_method_11_code 62 = .ok (.bastore, 1) := by decide +kernel
theorem d_Mo_bar_63 : decode prog_8_method_11_code 63 = .ok (.iconst 1, 1) := by decide +kernel
theorem d_Mo_bar_64 : decode prog_8_method_11_code 64 = .ok (.ireturn, 1) := by decide +kernel
theorem d_Mo_hasEnded_0 : decode prog_8_method_12_code 0 = .ok (.iconst 1, 1) := by decide +kernel
theorem d_Mo_hasEnded_1 : decode prog_8_method_12_code 1 = .ok (.istore_n 2, 1) := by decide +kernel
theorem d_Mo_hasEnded_2 : decode prog_8_method_12_code 2 = .ok (.iconst 0, 1) := by decide +kernel
theorem d_Mo_hasEnded_3 : decode prog_8_method_12_code 3 = .ok (.istore_n 3, 1) := by decide +kernel
theorem d_Mo_hasEnded_4 : decode prog_8_method_12_code 4 = .ok (.iload_n 3, 1) := by decide +kernel
theorem d_Mo_hasEnded_5 : decode prog_8_method_12_code 5 = .ok (.aload_n 0, 1) := by decide +kernel
theorem d_Mo_hasEnded_6 : decode prog_8_method_12_code 6 = .ok (.getfield 87, 3) := by decide +kernel
theorem d_Mo_hasEnded_9 : decode prog_8_method_12_code 9 = .ok (.if_icmp .ge 44, 3) := by decide +kernel
theorem d_Mo_hasEnded_12 : decode prog_8_method_12_code 12 = .ok (.iload_n 2, 1) := by decide +kernel
theorem d_Mo_hasEnded_13 : decode prog_8_method_12_code 13 = .ok (.ifCond .eq 32, 3) := by decide +kernel
theorem d_Mo_hasEnded_16 : decode prog_8_method_12_code 16 = .ok (.aload_n 0, 1) := by decide +kernel
theorem d_Mo_hasEnded_17 : decode prog_8_method_12_code 17 = .ok (.getfield 33, 3) := by decide +kernel
theorem d_Mo_hasEnded_20 : decode prog_8_method_12_code 20 = .ok (.iload_n 3, 1) := by decide +kernel
theorem d_Mo_hasEnded_21 : decode prog_8_method_12_code 21 = .ok (.iaload, 1) := by decide +kernel
theorem d_Mo_hasEnded_22 : decode prog_8_method_12_code 22 = .ok (.iload_n 1, 1) := by decide +kernel
theorem d_Mo_hasEnded_23 : decode prog_8_method_12_code 23 = .ok (.if_icmp .ne 18, 3) := by decide +kernel
theorem d_Mo_hasEnded_26 : decode prog_8_method_12_code 26 = .ok (.aload_n 0, 1) := by decide +kernel
theorem d_Mo_hasEnded_27 : decode prog_8_method_12_code 27 = .ok (.getfield 36, 3) := by decide +kernel
theorem d_Mo_hasEnded_30 : decode prog_8_method_12_code 30 = .ok (.iload_n 3, 1) := by decide +kernel
theorem d_Mo_hasEnded_31 : decode prog_8_method_12_code 31 = .ok (.iaload, 1) := by decide +kernel
theorem d_Mo_hasEnded_32 : decode prog_8_method_12_code 32 = .ok (.aload_n 0, 1) := by decide +kernel
theorem d_Mo_hasEnded_33 : decode prog_8_method_12_code 33 = .ok (.getfield 45, 3) := by decide +kernel
theorem d_Mo_hasEnded_36 : decode prog_8_method_12_code 36 = .ok (.iload_n 1, 1) := by decide +kernel
theorem d_Mo_hasEnded_37 : decode prog_8_method_12_code 37 = .ok (.iaload, 1) := by decide +kernel
theorem d_Mo_hasEnded_38 : decode prog_8_method_12_code 38 = .ok (.if_icmp .ge 7, 3) := by decide +kernel
theorem d_Mo_hasEnded_41 : decode prog_8_method_12_code 41 = .ok (.iconst 1, 1) := by decide +kernel
theorem d_Mo_hasEnded_42 : decode prog_8_method_12_code 42 = .ok (.goto 4, 3) := by decide +kernel
theorem d_Mo_hasEnded_45 : decode prog_8_method_12_code 45 = .ok (.iconst 0, 1) := by decide +kernel
theorem d_Mo_hasEnded_46 : decode prog_8_method_12_code 46 = .ok (.istore_n 2, 1) := by decide +kernel
theorem d_Mo_hasEnded_47 : decode prog_8_method_12_code 47 = .ok (.iinc 3 1, 3) := by decide +kernel
theorem d_Mo_hasEnded_50 : decode prog_8_method_12_code 50 = .ok (.goto (-46), 3) := by decide +kernel
theorem d_Mo_hasEnded_53 : decode prog_8_method_12_code 53 = .ok (.iload_n 2, 1) := by decide +kernel
theorem d_Mo_hasEnded_54 : decode prog_8_method_12_code 54 = .ok (.ireturn, 1) := by decide +kernel
theorem d_Mo_goes_0 : decode prog_8_method_13_code 0 = .ok (.aload_n 0, 1) := by decide +kernel
theorem d_Mo_goes_1 : decode prog_8_method_13_code 1 = .ok (.getfield 83, 3) := by decide +kernel
theorem d_Mo_goes_4 : decode prog_8_method_13_code 4 = .ok (.ifCond .ne 25, 3) := by decide +kernel
theorem d_Mo_goes_7 : decode prog_8_method_13_code 7 = .ok (.aload_n 0, 1) := by decide +kernel
theorem d_Mo_goes_8 : decode prog_8_method_13_code 8 = .ok (.getfield 51, 3) := by decide +kernel
theorem d_Mo_goes_11 : decode prog_8_method_13_code 11 = .ok (.iload_n 1, 1) := by decide +kernel
theorem d_Mo_goes_12 : decode prog_8_method_13_code 12 = .ok (.iaload, 1) := by decide +kernel
theorem d_Mo_goes_13 : decode prog_8_method_13_code 13 = .ok (.iconst (-1), 1) := by decide +kernel
theorem d_Mo_goes_14 : decode prog_8_method_13_code 14 = .ok (.if_icmp .ne 15, 3) := by decide +kernel
theorem d_Mo_goes_17 : decode prog_8_method_13_code 17 = .ok (.aload_n 0, 1) := by decide +kernel
theorem d_Mo_goes_18 : decode prog_8_method_13_code 18 = .ok (.iload_n 1, 1) := by decide +kernel
theorem d_Mo_goes_19 : decode prog_8_method_13_code 19 = .ok (.invokevirtual 109, 3) := by decide +kernel
theorem d_Mo_goes_22 : decode prog_8_method_13_code 22 = .ok (.ifCond .ne 7, 3) := by decide +kernel
theorem d_Mo_goes_25 : decode prog_8_method_13_code 25 = .ok (.iconst 1, 1) := by decide +kernel
theorem d_Mo_goes_26 : decode prog_8_method_13_code 26 = .ok (.goto 4, 3) := by decide +kernel
theorem d_Mo_goes_29 : decode prog_8_method_13_code 29 = .ok (.iconst 0, 1) := by decide +kernel
theorem d_Mo_goes_30 : decode prog_8_method_13_code 30 = .ok (.ireturn, 1) := by decide +kernel
theorem d_Mo_going_0 : decode prog_8_method_14_code 0 = .ok (.iconst 0, 1) := by decide +kernel
theorem d_Mo_going_1 : decode prog_8_method_14_code 1 = .ok (.istore_n 1, 1) := by decide +kernel
theorem d_Mo_going_2 : decode prog_8_method_14_code 2 = .ok (.iconst 0, 1) := by decide +kernel
theorem d_Mo_going_3 : decode prog_8_method_14_code 3 = .ok (.istore_n 2, 1) := by decide +kernel
theorem d_Mo_going_4 : decode prog_8_method_14_code 4 = .ok (.iload_n 2, 1) := by decide +kernel
theorem d_Mo_going_5 : decode prog_8_method_14_code 5 = .ok (.aload_n 0, 1) := by decide +kernel
theorem d_Mo_going_6 : decode prog_8_method_14_code 6 = .ok (.getfield 75, 3) := by decide +kernel
theorem d_Mo_going_9 : decode prog_8_method_14_code 9 = .ok (.if_icmp .ge 25, 3) := by decide +kernel
theorem d_Mo_going_12 : decode prog_8_method_14_code 12 = .ok (.iload_n 1, 1) := by decide +kernel
theorem d_Mo_going_13 : decode prog_8_method_14_code 13 = .ok (.aload_n 0, 1) := by decide +kernel
theorem d_Mo_going_14 : decode prog_8_method_14_code 14 = .ok (.iload_n 2, 1) := by decide +kernel
theorem d_Mo_going_15 : decode prog_8_method_14_code 15 = .ok (.invokevirtual 112, 3) := by decide +kernel
theorem d_Mo_going_18 : decode prog_8_method_14_code 18 = .ok (.ifCond .eq 7, 3) := by decide +kernel
theorem d_Mo_going_21 : decode prog_8_method_14_code 21 = .ok (.iconst 1, 1) := by decide +kernel
theorem d_Mo_going_22 : decode prog_8_method_14_code 22 = .ok (.goto 4, 3) := by decide +kernel
theorem d_Mo_going_25 : decode prog_8_method_14_code 25 = .ok (.iconst 0, 1) := by decide +kernel
theorem d_Mo_going_26 : decode prog_8_method_14_code 26 = .ok (.iadd, 1) := by decide +kernel
theorem d_Mo_going_27 : decode prog_8_method_14_code 27 = .ok (.istore_n 1, 1) := by decide +kernel
theorem d_Mo_going_28 : decode prog_8_method_14_code 28 = .ok (.iinc 2 1, 3) := by decide +kernel
theorem d_Mo_going_31 : decode prog_8_method_14_code 31 = .ok (.goto (-27), 3) := by decide +kernel
theorem d_Mo_going_34 : decode prog_8_method_14_code 34 = .ok (.iload_n 1, 1) := by decide +kernel
theorem d_Mo_going_35 : decode prog_8_method_14_code 35 = .ok (.ireturn, 1) := by decide +kernel
theorem d_Mo_isGive_0 : decode prog_8_method_15_code 0 = .ok (.iconst 0, 1) := by decide +kernel
theorem d_Mo_isGive_1 : decode prog_8_method_15_code 1 = .ok (.istore_n 2, 1) := by decide +kernel
theorem d_Mo_isGive_2 : decode prog_8_method_15_code 2 = .ok (.iconst 0, 1) := by decide +kernel
theorem d_Mo_isGive_3 : decode prog_8_method_15_code 3 = .ok (.istore_n 3, 1) := by decide +kernel
theorem d_Mo_isGive_4 : decode prog_8_method_15_code 4 = .ok (.iload_n 3, 1) := by decide +kernel
theorem d_Mo_isGive_5 : decode prog_8_method_15_code 5 = .ok (.aload_n 0, 1) := by decide +kernel
theorem d_Mo_isGive_6 : decode prog_8_method_15_code 6 = .ok (.getfield 87, 3) := by decide +kernel
theorem d_Mo_isGive_9 : decode prog_8_method_15_code 9 = .ok (.if_icmp .ge 72, 3) := by decide +kernel
theorem d_Mo_isGive_12 : decode prog_8_method_15_code 12 = .ok (.iload_n 2, 1) := by decide +kernel
theorem d_Mo_isGive_13 : decode prog_8_method_15_code 13 = .ok (.aload_n 0, 1) := by decide +kernel
theorem d_Mo_isGive_14 : decode prog_8_method_15_code 14 = .ok (.getfield 30, 3) := by decide +kernel
theorem d_Mo_isGive_17 : decode prog_8_method_15_code 17 = .ok (.iload_n 3, 1) := by decide +kernel
theorem d_Mo_isGive_18 : decode prog_8_method_15_code 18 = .ok (.iaload, 1) := by decide +kernel
theorem d_Mo_isGive_19 : decode prog_8_method_15_code 19 = .ok (.iconst 1, 1) := by decide +kernel
theorem d_Mo_isGive_20 : decode prog_8_method_15_code 20 = .ok (.if_icmp .ne 52, 3) := by decide +kernel
theorem d_Mo_isGive_23 : decode prog_8_method_15_code 23 = .ok (.aload_n 0, 1) := by decide +kernel
theorem d_Mo_isGive_24 : decode prog_8_method_15_code 24 = .ok (.getfield 33, 3) := by decide +kernel
theorem d_Mo_isGive_27 : decode prog_8_method_15_code 27 = .ok (.iload_n 3, 1) := by decide +kernel
theorem d_Mo_isGive_28 : decode prog_8_method_15_code 28 = .ok (.iaload, 1) := by decide +kernel
theorem d_Mo_isGive_29 : decode prog_8_method_15_code 29 = .ok (.aload_n 0, 1) := by decide +kernel
theorem d_Mo_isGive_30 : decode prog_8_method_15_code 30 = .ok (.getfield 33, 3) := by decide +kernel
theorem d_Mo_isGive_33 : decode prog_8_method_15_code 33 = .ok (.iload_n 1, 1) := by decide +kernel
theorem d_Mo_isGive_34 : decode prog_8_method_15_code 34 = .ok (.iaload, 1) := by decide +kernel
theorem d_Mo_isGive_35 : decode prog_8_method_15_code 35 = .ok (.if_icmp .ne 37, 3) := by decide +kernel
theorem d_Mo_isGive_38 : decode prog_8_method_15_code 38 = .ok (.aload_n 0, 1) := by decide +kernel
theorem d_Mo_isGive_39 : decode prog_8_method_15_code 39 = .ok (.getfield 39, 3) := by decide +kernel
theorem d_Mo_isGive_42 : decode prog_8_method_15_code 42 = .ok (.iload_n 3, 1) := by decide +kernel
theorem d_Mo_isGive_43 : decode prog_8_method_15_code 43 = .ok (.iaload, 1) := by decide +kernel
theorem d_Mo_isGive_44 : decode prog_8_method_15_code 44 = .ok (.aload_n 0, 1) := by decide +kernel
theorem d_Mo_isGive_45 : decode prog_8_method_15_code 45 = .ok (.getfield 39, 3) := by decide +kernel
theorem d_Mo_isGive_48 : decode prog_8_method_15_code 48 = .ok (.iload_n 1, 1) := by decide +kernel
theorem d_Mo_isGive_49 : decode prog_8_method_15_code 49 = .ok (.iaload, 1) := by decide +kernel
theorem d_Mo_isGive_50 : decode prog_8_method_15_code 50 = .ok (.if_icmp .ne 22, 3) := by decide +kernel
theorem d_Mo_isGive_53 : decode prog_8_method_15_code 53 = .ok (.aload_n 0, 1) := by decide +kernel
theorem d_Mo_isGive_54 : decode prog_8_method_15_code 54 = .ok (.getfield 36, 3) := by decide +kernel
theorem d_Mo_isGive_57 : decode prog_8_method_15_code 57 = .ok (.iload_n 3, 1) := by decide +kernel
theorem d_Mo_isGive_58 : decode prog_8_method_15_code 58 = .ok (.iaload, 1) := by decide +kernel
theorem d_Mo_isGive_59 : decode prog_8_method_15_code 59 = .ok (.aload_n 0, 1) := by decide +kernel
theorem d_Mo_isGive_60 : decode prog_8_method_15_code 60 = .ok (.getfield 36, 3) := by decide +kernel
theorem d_Mo_isGive_63 : decode prog_8_method_15_code 63 = .ok (.iload_n 1, 1) := by decide +kernel
theorem d_Mo_isGive_64 : decode prog_8_method_15_code 64 = .ok (.iaload, 1) := by decide +kernel
theorem d_Mo_isGive_65 : decode prog_8_method_15_code 65 = .ok (.if_icmp .ge 7, 3) := by decide +kernel
theorem d_Mo_isGive_68 : decode prog_8_method_15_code 68 = .ok (.iconst 1, 1) := by decide +kernel
theorem d_Mo_isGive_69 : decode prog_8_method_15_code 69 = .ok (.goto 4, 3) := by decide +kernel
theorem d_Mo_isGive_72 : decode prog_8_method_15_code 72 = .ok (.iconst 0, 1) := by decide +kernel
theorem d_Mo_isGive_73 : decode prog_8_method_15_code 73 = .ok (.iadd, 1) := by decide +kernel
theorem d_Mo_isGive_74 : decode prog_8_method_15_code 74 = .ok (.istore_n 2, 1) := by decide +kernel
theorem d_Mo_isGive_75 : decode prog_8_method_15_code 75 = .ok (.iinc 3 1, 3) := by decide +kernel
theorem d_Mo_isGive_78 : decode prog_8_method_15_code 78 = .ok (.goto (-74), 3) := by decide +kernel
theorem d_Mo_isGive_81 : decode prog_8_method_15_code 81 = .ok (.iload_n 2, 1) := by decide +kernel
theorem d_Mo_isGive_82 : decode prog_8_method_15_code 82 = .ok (.iconst 2, 1) := by decide +kernel
theorem d_Mo_isGive_83 : decode prog_8_method_15_code 83 = .ok (.irem, 1) := by decide +kernel
theorem d_Mo_isGive_84 : decode prog_8_method_15_code 84 = .ok (.iconst 1, 1) := by decide +kernel
theorem d_Mo_isGive_85 : decode prog_8_method_15_code 85 = .ok (.if_icmp .ne 7, 3) := by decide +kernel
theorem d_Mo_isGive_88 : decode prog_8_method_15_code 88 = .ok (.iconst 1, 1) := by decide +kernel
theorem d_Mo_isGive_89 : decode prog_8_method_15_code 89 = .ok (.goto 4, 3) := by decide +kernel
theorem d_Mo_isGive_92 : decode prog_8_method_15_code 92 = .ok (.iconst 0, 1) := by decide +kernel
theorem d_Mo_isGive_93 : decode prog_8_method_15_code 93 = .ok (.ireturn, 1) := by decide +kernel
theorem d_Mo_isNow_0 : decode prog_8_method_16_code 0 = .ok (.aload_n 0, 1) := by decide +kernel
theorem d_Mo_isNow_1 : decode prog_8_method_16_code 1 = .ok (.getfield 30, 3) := by decide +kernel
theorem d_Mo_isNow_4 : decode prog_8_method_16_code 4 = .ok (.iload_n 1, 1) := by decide +kernel
theorem d_Mo_isNow_5 : decode prog_8_method_16_code 5 = .ok (.iaload, 1) := by decide +kernel
theorem d_Mo_isNow_6 : decode prog_8_method_16_code 6 = .ok (.iload_n 2, 1) := by decide +kernel
theorem d_Mo_isNow_7 : decode prog_8_method_16_code 7 = .ok (.if_icmp .ne 32, 3) := by decide +kernel
theorem d_Mo_isNow_10 : decode prog_8_method_16_code 10 = .ok (.aload_n 0, 1) := by decide +kernel
theorem d_Mo_isNow_11 : decode prog_8_method_16_code 11 = .ok (.getfield 33, 3) := by decide +kernel
theorem d_Mo_isNow_14 : decode prog_8_method_16_code 14 = .ok (.iload_n 1, 1) := by decide +kernel
theorem d_Mo_isNow_15 : decode prog_8_method_16_code 15 = .ok (.iaload, 1) := by decide +kernel
theorem d_Mo_isNow_16 : decode prog_8_method_16_code 16 = .ok (.iload_n 3, 1) := by decide +kernel
theorem d_Mo_isNow_17 : decode prog_8_method_16_code 17 = .ok (.if_icmp .ne 22, 3) := by decide +kernel
theorem d_Mo_isNow_20 : decode prog_8_method_16_code 20 = .ok (.aload_n 0, 1) := by decide +kernel
theorem d_Mo_isNow_21 : decode prog_8_method_16_code 21 = .ok (.getfield 36, 3) := by decide +kernel
theorem d_Mo_isNow_24 : decode prog_8_method_16_code 24 = .ok (.iload_n 1, 1) := by decide +kernel
theorem d_Mo_isNow_25 : decode prog_8_method_16_code 25 = .ok (.iaload, 1) := by decide +kernel
theorem d_Mo_isNow_26 : decode prog_8_method_16_code 26 = .ok (.aload_n 0, 1) := by decide +kernel
theorem d_Mo_isNow_27 : decode prog_8_method_16_code 27 = .ok (.getfield 45, 3) := by decide +kernel
theorem d_Mo_isNow_30 : decode prog_8_method_16_code 30 = .ok (.iload_n 3, 1) := by decide +kernel
theorem d_Mo_isNow_31 : decode prog_8_method_16_code 31 = .ok (.iaload, 1) := by decide +kernel
theorem d_Mo_isNow_32 : decode prog_8_method_16_code 32 = .ok (.if_icmp .ne 7, 3) := by decide +kernel
theorem d_Mo_isNow_35 : decode prog_8_method_16_code 35 = .ok (.iconst 1, 1) := by decide +kernel
theorem d_Mo_isNow_36 : decode prog_8_method_16_code 36 = .ok (.goto 4, 3) := by decide +kernel
theorem d_Mo_isNow_39 : decode prog_8_method_16_code 39 = .ok (.iconst 0, 1) := by decide +kernel
theorem d_Mo_isNow_40 : decode prog_8_method_16_code 40 = .ok (.ireturn, 1) := by decide +kernel
theorem d_Mo_takeTurn_0 : decode prog_8_method_17_code 0 = .ok (.aload_n 0, 1) := by decide +kernel
theorem d_Mo_takeTurn_1 : decode prog_8_method_17_code 1 = .ok (.getfield 54, 3) := by decide +kernel
theorem d_Mo_takeTurn_4 : decode prog_8_method_17_code 4 = .ok (.aload_n 0, 1) := by decide +kernel
theorem d_Mo_takeTurn_5 : decode prog_8_method_17_code 5 = .ok (.getfield 115, 3) := by decide +kernel
theorem d_Mo_takeTurn_8 : decode prog_8_method_17_code 8 = .ok (.aload_n 0, 1) := by decide +kernel
theorem d_Mo_takeTurn_9 : decode prog_8_method_17_code 9 = .ok (.getfield 106, 3) := by decide +kernel
theorem d_Mo_takeTurn_12 : decode prog_8_method_17_code 12 = .ok (.iastore, 1) := by decide +kernel
theorem d_Mo_takeTurn_13 : decode prog_8_method_17_code 13 = .ok (.aload_n 0, 1) := by decide +kernel
theorem d_Mo_takeTurn_14 : decode prog_8_method_17_code 14 = .ok (.getfield 57, 3) := by decide +kernel
theorem d_Mo_takeTurn_17 : decode prog_8_method_17_code 17 = .ok (.aload_n 0, 1) := by decide +kernel
theorem d_Mo_takeTurn_18 : decode prog_8_method_17_code 18 = .ok (.getfield 115, 3) := by decide +kernel
theorem d_Mo_takeTurn_21 : decode prog_8_method_17_code 21 = .ok (.iload_n 1, 1) := by decide +kernel
theorem d_Mo_takeTurn_22 : decode prog_8_method_17_code 22 = .ok (.iastore, 1) := by decide +kernel
theorem d_Mo_takeTurn_23 : decode prog_8_method_17_code 23 = .ok (.aload_n 0, 1) := by decide +kernel
theorem d_Mo_takeTurn_24 : decode prog_8_method_17_code 24 = .ok (.getfield 60, 3) := by decide +kernel
theorem d_Mo_takeTurn_27 : decode prog_8_method_17_code 27 = .ok (.aload_n 0, 1) := by decide +kernel
theorem d_Mo_takeTurn_28 : decode prog_8_method_17_code 28 = .ok (.getfield 115, 3) := by decide +kernel
theorem d_Mo_takeTurn_31 : decode prog_8_method_17_code 31 = .ok (.iconst 0, 1) := by decide +kernel
theorem d_Mo_takeTurn_32 : decode prog_8_method_17_code 32 = .ok (.iastore, 1) := by decide +kernel
theorem d_Mo_takeTurn_33 : decode prog_8_method_17_code 33 = .ok (.aload_n 0, 1) := by decide +kernel
theorem d_Mo_takeTurn_34 : decode prog_8_method_17_code 34 = .ok (.dup, 1) := by decide +kernel
theorem d_Mo_takeTurn_35 : decode prog_8_method_17_code 35 = .ok (.getfield 115, 3) := by decide +kernel
theorem d_Mo_takeTurn_38 : decode prog_8_method_17_code 38 = .ok (.iconst 1, 1) := by decide +kernel
theorem d_Mo_takeTurn_39 : decode prog_8_method_17_code 39 = .ok (.iadd, 1) := by decide +kernel
theorem d_Mo_takeTurn_40 : decode prog_8_method_17_code 40 = .ok (.putfield 115, 3) := by decide +kernel
theorem d_Mo_takeTurn_43 : decode prog_8_method_17_code 43 = .ok (.aload_n 0, 1) := by decide +kernel
theorem d_Mo_takeTurn_44 : decode prog_8_method_17_code 44 = .ok (.iconst 2, 1) := by decide +kernel
theorem d_Mo_takeTurn_45 : decode prog_8_method_17_code 45 = .ok (.iload_n 1, 1) := by decide +kernel
theorem d_Mo_takeTurn_46 : decode prog_8_method_17_code 46 = .ok (.aload_n 0, 1) := by decide +kernel
theorem d_Mo_takeTurn_47 : decode prog_8_method_17_code 47 = .ok (.getfield 45, 3) := by decide +kernel
theorem d_Mo_takeTurn_50 : decode prog_8_method_17_code 50 = .ok (.iload_n 1, 1) := by decide +kernel
theorem d_Mo_takeTurn_51 : decode prog_8_method_17_code 51 = .ok (.iaload, 1) := by decide +kernel
theorem d_Mo_takeTurn_52 : decode prog_8_method_17_code 52 = .ok (.iconst (-1), 1) := by decide +kernel
theorem d_Mo_takeTurn_53 : decode prog_8_method_17_code 53 = .ok (.invokevirtual 102, 3) := by decide +kernel
theorem d_Mo_takeTurn_56 : decode prog_8_method_17_code 56 = .ok (.istore_n 2, 1) := by decide +kernel
theorem d_Mo_takeTurn_57 : decode prog_8_method_17_code 57 = .ok (.aload_n 0, 1) := by decide +kernel
theorem d_Mo_takeTurn_58 : decode prog_8_method_17_code 58 = .ok (.getfield 69, 3) := by decide +kernel
theorem d_Mo_takeTurn_61 : decode prog_8_method_17_code 61 = .ok (.iload_n 1, 1) := by decide +kernel
theorem d_Mo_takeTurn_62 : decode prog_8_method_17_code 62 = .ok (.iload_n 2, 1) := by decide +kernel
theorem d_Mo_takeTurn_63 : decode prog_8_method_17_code 63 = .ok (.ifCond .lt 7, 3) := by decide +kernel
theorem d_Mo_takeTurn_66 : decode prog_8_method_17_code 66 = .ok (.iconst 1, 1) := by decide +kernel
theorem d_Mo_takeTurn_67 : decode prog_8_method_17_code 67 = .ok (.goto 4, 3) := by decide +kernel
theorem d_Mo_takeTurn_70 : decode prog_8_method_17_code 70 = .ok (.iconst 0, 1) := by decide +kernel
theorem d_Mo_takeTurn_71 : decode prog_8_method_17_code 71 = .ok (.bastore, 1) := by decide +kernel
theorem d_Mo_takeTurn_72 : decode prog_8_method_17_code 72 = .ok (.iload_n 2, 1) := by decide +kernel
theorem d_Mo_takeTurn_73 : decode prog_8_method_17_code 73 = .ok (.ifCond .lt 11, 3) := by decide +kernel
theorem d_Mo_takeTurn_76 : decode prog_8_method_17_code 76 = .ok (.aload_n 0, 1) := by decide +kernel
theorem d_Mo_takeTurn_77 : decode prog_8_method_17_code 77 = .ok (.getfield 30, 3) := by decide +kernel
theorem d_Mo_takeTurn_80 : decode prog_8_method_17_code 80 = .ok (.iload_n 2, 1) := by decide +kernel
theorem d_Mo_takeTurn_81 : decode prog_8_method_17_code 81 = .ok (.iconst 3, 1) := by decide +kernel
theorem d_Mo_takeTurn_82 : decode prog_8_method_17_code 82 = .ok (.iastore, 1) := by decide +kernel
theorem d_Mo_takeTurn_83 : decode prog_8_method_17_code 83 = .ok (.return_, 1) := by decide +kernel
theorem d_Mo_takeTurn_84 : decode prog_8_method_17_code 84 = .ok (.iconst 0, 1) := by decide +kernel
theorem d_Mo_takeTurn_85 : decode prog_8_method_17_code 85 = .ok (.istore_n 3, 1) := by decide +kernel
theorem d_Mo_takeTurn_86 : decode prog_8_method_17_code 86 = .ok (.iload_n 3, 1) := by decide +kernel
theorem d_Mo_takeTurn_87 : decode prog_8_method_17_code 87 = .ok (.aload_n 0, 1) := by decide +kernel
theorem d_Mo_takeTurn_88 : decode prog_8_method_17_code 88 = .ok (.getfield 87, 3) := by decide +kernel
theorem d_Mo_takeTurn_91 : decode prog_8_method_17_code 91 = .ok (.if_icmp .ge 59, 3) := by decide +kernel
theorem d_Mo_takeTurn_94 : decode prog_8_method_17_code 94 = .ok (.aload_n 0, 1) := by decide +kernel
theorem d_Mo_takeTurn_95 : decode prog_8_method_17_code 95 = .ok (.iload_n 3, 1) := by decide +kernel
theorem d_Mo_takeTurn_96 : decode prog_8_method_17_code 96 = .ok (.iconst 1, 1) := by decide +kernel
theorem d_Mo_takeTurn_97 : decode prog_8_method_17_code 97 = .ok (.iload_n 1, 1) := by decide +kernel
theorem d_Mo_takeTurn_98 : decode prog_8_method_17_code 98 = .ok (.invokevirtual 118, 3) := by decide +kernel
theorem d_Mo_takeTurn_101 : decode prog_8_method_17_code 101 = .ok (.ifCond .eq 43, 3) := by decide +kernel
theorem d_Mo_takeTurn_104 : decode prog_8_method_17_code 104 = .ok (.aload_n 0, 1) := by decide +kernel
theorem d_Mo_takeTurn_105 : decode prog_8_method_17_code 105 = .ok (.iload_n 3, 1) := by decide +kernel
theorem d_Mo_takeTurn_106 : decode prog_8_method_17_code 106 = .ok (.invokevirtual 121, 3) := by decide +kernel
theorem d_Mo_takeTurn_109 : decode prog_8_method_17_code 109 = .ok (.ifCond .ne 35, 3) := by decide +kernel
theorem d_Mo_takeTurn_112 : decode prog_8_method_17_code 112 = .ok (.aload_n 0, 1) := by decide +kernel
theorem d_Mo_takeTurn_113 : decode prog_8_method_17_code 113 = .ok (.getfield 16, 3) := by decide +kernel
theorem d_Mo_takeTurn_116 : decode prog_8_method_17_code 116 = .ok (.aload_n 0, 1) := by decide +kernel
theorem d_Mo_takeTurn_117 : decode prog_8_method_17_code 117 = .ok (.getfield 39, 3) := by decide +kernel
theorem d_Mo_takeTurn_120 : decode prog_8_method_17_code 120 = .ok (.iload_n 3, 1) := by decide +kernel
theorem d_Mo_takeTurn_121 : decode prog_8_method_17_code 121 = .ok (.iaload, 1) := by decide +kernel
theorem d_Mo_takeTurn_122 : decode prog_8_method_17_code 122 = .ok (.iaload, 1) := by decide +kernel
theorem d_Mo_takeTurn_123 : decode prog_8_method_17_code 123 = .ok (.iload_n 1, 1) := by decide +kernel
theorem d_Mo_takeTurn_124 : decode prog_8_method_17_code 124 = .ok (.if_icmp .eq 20, 3) := by decide +kernel
theorem d_Mo_takeTurn_127 : decode prog_8_method_17_code 127 = .ok (.aload_n 0, 1) := by decide +kernel
theorem d_Mo_takeTurn_128 : decode prog_8_method_17_code 128 = .ok (.getfield 72, 3) := by decide +kernel
theorem d_Mo_takeTurn_131 : decode prog_8_method_17_code 131 = .ok (.bipush 8, 2) := by decide +kernel
theorem d_Mo_takeTurn_133 : decode prog_8_method_17_code 133 = .ok (.aload_n 0, 1) := by decide +kernel
theorem d_Mo_takeTurn_134 : decode prog_8_method_17_code 134 = .ok (.getfield 39, 3) := by decide +kernel
theorem d_Mo_takeTurn_137 : decode prog_8_method_17_code 137 = .ok (.iload_n 3, 1) := by decide +kernel
theorem d_Mo_takeTurn_138 : decode prog_8_method_17_code 138 = .ok (.iaload, 1) := by decide +kernel
theorem d_Mo_takeTurn_139 : decode prog_8_method_17_code 139 = .ok (.imul, 1) := by decide +kernel
theorem d_Mo_takeTurn_140 : decode prog_8_method_17_code 140 = .ok (.iload_n 1, 1) := by decide +kernel
theorem d_Mo_takeTurn_141 : decode prog_8_method_17_code 141 = .ok (.iadd, 1) := by decide +kernel
theorem d_Mo_takeTurn_142 : decode prog_8_method_17_code 142 = .ok (.iconst 1, 1) := by decide +kernel
theorem d_Mo_takeTurn_143 : decode prog_8_method_17_code 143 = .ok (.bastore, 1) := by decide +kernel
theorem d_Mo_takeTurn_144 : decode prog_8_method_17_code 144 = .ok (.iinc 3 1, 3) := by decide +kernel
theorem d_Mo_takeTurn_147 : decode prog_8_method_17_code 147 = .ok (.goto (-61), 3) := by decide +kernel
theorem d_Mo_takeTurn_150 : decode prog_8_method_17_code 150 = .ok (.return_, 1) := by decide +kernel
theorem d_Mo_turnsOf_0 : decode prog_8_method_18_code 0 = .ok (.lload_n 1, 1) := by decide +kernel
theorem d_Mo_turnsOf_1 : decode prog_8_method_18_code 1 = .ok (.lstore_n 3, 1) := by decide +kernel
theorem d_Mo_turnsOf_2 : decode prog_8_method_18_code 2 = .ok (.iconst 0, 1) := by decide +kernel
theorem d_Mo_turnsOf_3 : decode prog_8_method_18_code 3 = .ok (.istore 5, 2) := by decide +kernel
theorem d_Mo_turnsOf_5 : decode prog_8_method_18_code 5 = .ok (.iconst 0, 1) := by decide +kernel
theorem d_Mo_turnsOf_6 : decode prog_8_method_18_code 6 = .ok (.istore 6, 2) := by decide +kernel
theorem d_Mo_turnsOf_8 : decode prog_8_method_18_code 8 = .ok (.iload 6, 2) := by decide +kernel
theorem d_Mo_turnsOf_10 : decode prog_8_method_18_code 10 = .ok (.aload_n 0, 1) := by decide +kernel
theorem d_Mo_turnsOf_11 : decode prog_8_method_18_code 11 = .ok (.getfield 75, 3) := by decide +kernel
theorem d_Mo_turnsOf_14 : decode prog_8_method_18_code 14 = .ok (.if_icmp .ge 42, 3) := by decide +kernel
theorem d_Mo_turnsOf_17 : decode prog_8_method_18_code 17 = .ok (.aload_n 0, 1) := by decide +kernel
theorem d_Mo_turnsOf_18 : decode prog_8_method_18_code 18 = .ok (.getfield 63, 3) := by decide +kernel
theorem d_Mo_turnsOf_21 : decode prog_8_method_18_code 21 = .ok (.iload 6, 2) := by decide +kernel
theorem d_Mo_turnsOf_23 : decode prog_8_method_18_code 23 = .ok (.aload_n 0, 1) := by decide +kernel
theorem d_Mo_turnsOf_24 : decode prog_8_method_18_code 24 = .ok (.iload 6, 2) := by decide +kernel
theorem d_Mo_turnsOf_26 : decode prog_8_method_18_code 26 = .ok (.invokevirtual 112, 3) := by decide +kernel
theorem d_Mo_turnsOf_29 : decode prog_8_method_18_code 29 = .ok (.bastore, 1) := by decide +kernel
theorem d_Mo_turnsOf_30 : decode prog_8_method_18_code 30 = .ok (.iload 5, 2) := by decide +kernel
theorem d_Mo_turnsOf_32 : decode prog_8_method_18_code 32 = .ok (.aload_n 0, 1) := by decide +kernel
theorem d_Mo_turnsOf_33 : decode prog_8_method_18_code 33 = .ok (.getfield 63, 3) := by decide +kernel
theorem d_Mo_turnsOf_36 : decode prog_8_method_18_code 36 = .ok (.iload 6, 2) := by decide +kernel
theorem d_Mo_turnsOf_38 : decode prog_8_method_18_code 38 = .ok (.baload, 1) := by decide +kernel
theorem d_Mo_turnsOf_39 : decode prog_8_method_18_code 39 = .ok (.ifCond .eq 7, 3) := by decide +kernel
theorem d_Mo_turnsOf_42 : decode prog_8_method_18_code 42 = .ok (.iconst 1, 1) := by decide +kernel
theorem d_Mo_turnsOf_43 : decode prog_8_method_18_code 43 = .ok (.goto 4, 3) := by decide +kernel
theorem d_Mo_turnsOf_46 : decode prog_8_method_18_code 46 = .ok (.iconst 0, 1) := by decide +kernel
theorem d_Mo_turnsOf_47 : decode prog_8_method_18_code 47 = .ok (.iadd, 1) := by decide +kernel
theorem d_Mo_turnsOf_48 : decode prog_8_method_18_code 48 = .ok (.istore 5, 2) := by decide +kernel
theorem d_Mo_turnsOf_50 : decode prog_8_method_18_code 50 = .ok (.iinc 6 1, 3) := by decide +kernel
theorem d_Mo_turnsOf_53 : decode prog_8_method_18_code 53 = .ok (.goto (-45), 3) := by decide +kernel
theorem d_Mo_turnsOf_56 : decode prog_8_method_18_code 56 = .ok (.iconst 0, 1) := by decide +kernel
theorem d_Mo_turnsOf_57 : decode prog_8_method_18_code 57 = .ok (.istore 6, 2) := by decide +kernel
theorem d_Mo_turnsOf_59 : decode prog_8_method_18_code 59 = .ok (.iload 6, 2) := by decide +kernel
theorem d_Mo_turnsOf_61 : decode prog_8_method_18_code 61 = .ok (.aload_n 0, 1) := by decide +kernel
theorem d_Mo_turnsOf_62 : decode prog_8_method_18_code 62 = .ok (.getfield 75, 3) := by decide +kernel
theorem d_Mo_turnsOf_65 : decode prog_8_method_18_code 65 = .ok (.if_icmp .ge 23, 3) := by decide +kernel
theorem d_Mo_turnsOf_68 : decode prog_8_method_18_code 68 = .ok (.aload_n 0, 1) := by decide +kernel
theorem d_Mo_turnsOf_69 : decode prog_8_method_18_code 69 = .ok (.getfield 66, 3) := by decide +kernel
theorem d_Mo_turnsOf_72 : decode prog_8_method_18_code 72 = .ok (.iload 6, 2) := by decide +kernel
theorem d_Mo_turnsOf_74 : decode prog_8_method_18_code 74 = .ok (.aload_n 0, 1) := by decide +kernel
theorem d_Mo_turnsOf_75 : decode prog_8_method_18_code 75 = .ok (.getfield 63, 3) := by decide +kernel
theorem d_Mo_turnsOf_78 : decode prog_8_method_18_code 78 = .ok (.iload 6, 2) := by decide +kernel
theorem d_Mo_turnsOf_80 : decode prog_8_method_18_code 80 = .ok (.baload, 1) := by decide +kernel
theorem d_Mo_turnsOf_81 : decode prog_8_method_18_code 81 = .ok (.bastore, 1) := by decide +kernel
theorem d_Mo_turnsOf_82 : decode prog_8_method_18_code 82 = .ok (.iinc 6 1, 3) := by decide +kernel
theorem d_Mo_turnsOf_85 : decode prog_8_method_18_code 85 = .ok (.goto (-26), 3) := by decide +kernel
theorem d_Mo_turnsOf_88 : decode prog_8_method_18_code 88 = .ok (.iload 5, 2) := by decide +kernel
theorem d_Mo_turnsOf_90 : decode prog_8_method_18_code 90 = .ok (.ifCond .le 88, 3) := by decide +kernel
theorem d_Mo_turnsOf_93 : decode prog_8_method_18_code 93 = .ok (.lload_n 3, 1) := by decide +kernel
theorem d_Mo_turnsOf_94 : decode prog_8_method_18_code 94 = .ok (.ldc2_w 124, 3) := by decide +kernel
theorem d_Mo_turnsOf_97 : decode prog_8_method_18_code 97 = .ok (.lmul, 1) := by decide +kernel
theorem d_Mo_turnsOf_98 : decode prog_8_method_18_code 98 = .ok (.ldc2_w 126, 3) := by decide +kernel
theorem d_Mo_turnsOf_101 : decode prog_8_method_18_code 101 = .ok (.ladd, 1) := by decide +kernel
theorem d_Mo_turnsOf_102 : decode prog_8_method_18_code 102 = .ok (.lstore_n 3, 1) := by decide +kernel
theorem d_Mo_turnsOf_103 : decode prog_8_method_18_code 103 = .ok (.lload_n 3, 1) := by decide +kernel
theorem d_Mo_turnsOf_104 : decode prog_8_method_18_code 104 = .ok (.bipush 33, 2) := by decide +kernel
theorem d_Mo_turnsOf_106 : decode prog_8_method_18_code 106 = .ok (.lushr, 1) := by decide +kernel
theorem d_Mo_turnsOf_107 : decode prog_8_method_18_code 107 = .ok (.iload 5, 2) := by decide +kernel
theorem d_Mo_turnsOf_109 : decode prog_8_method_18_code 109 = .ok (.i2l, 1) := by decide +kernel
theorem d_Mo_turnsOf_110 : decode prog_8_method_18_code 110 = .ok (.lrem, 1) := by decide +kernel
theorem d_Mo_turnsOf_111 : decode prog_8_method_18_code 111 = .ok (.l2i, 1) := by decide +kernel
theorem d_Mo_turnsOf_112 : decode prog_8_method_18_code 112 = .ok (.istore 6, 2) := by decide +kernel
theorem d_Mo_turnsOf_114 : decode prog_8_method_18_code 114 = .ok (.iconst 0, 1) := by decide +kernel
theorem d_Mo_turnsOf_115 : decode prog_8_method_18_code 115 = .ok (.istore 7, 2) := by decide +kernel
theorem d_Mo_turnsOf_117 : decode prog_8_method_18_code 117 = .ok (.aload_n 0, 1) := by decide +kernel
theorem d_Mo_turnsOf_118 : decode prog_8_method_18_code 118 = .ok (.getfield 66, 3) := by decide +kernel
theorem d_Mo_turnsOf_121 : decode prog_8_method_18_code 121 = .ok (.iload 7, 2) := by decide +kernel
theorem d_Mo_turnsOf_123 : decode prog_8_method_18_code 123 = .ok (.baload, 1) := by decide +kernel
theorem d_Mo_turnsOf_124 : decode prog_8_method_18_code 124 = .ok (.ifCond .eq 8, 3) := by decide +kernel
theorem d_Mo_turnsOf_127 : decode prog_8_method_18_code 127 = .ok (.iload 6, 2) := by decide +kernel
theorem d_Mo_turnsOf_129 : decode prog_8_method_18_code 129 = .ok (.ifCond .le 29, 3) := by decide +kernel
theorem d_Mo_turnsOf_132 : decode prog_8_method_18_code 132 = .ok (.iload 6, 2) := by decide +kernel
theorem d_Mo_turnsOf_134 : decode prog_8_method_18_code 134 = .ok (.aload_n 0, 1) := by decide +kernel
theorem d_Mo_turnsOf_135 : decode prog_8_method_18_code 135 = .ok (.getfield 66, 3) := by decide +kernel
theorem d_Mo_turnsOf_138 : decode prog_8_method_18_code 138 = .ok (.iload 7, 2) := by decide +kernel
theorem d_Mo_turnsOf_140 : decode prog_8_method_18_code 140 = .ok (.baload, 1) := by decide +kernel
theorem d_Mo_turnsOf_141 : decode prog_8_method_18_code 141 = .ok (.ifCond .eq 7, 3) := by decide +kernel
theorem d_Mo_turnsOf_144 : decode prog_8_method_18_code 144 = .ok (.iconst 1, 1) := by decide +kernel
theorem d_Mo_turnsOf_145 : decode prog_8_method_18_code 145 = .ok (.goto 4, 3) := by decide +kernel
theorem d_Mo_turnsOf_148 : decode prog_8_method_18_code 148 = .ok (.iconst 0, 1) := by decide +kernel
theorem d_Mo_turnsOf_149 : decode prog_8_method_18_code 149 = .ok (.isub, 1) := by decide +kernel
theorem d_Mo_turnsOf_150 : decode prog_8_method_18_code 150 = .ok (.istore 6, 2) := by decide +kernel
theorem d_Mo_turnsOf_152 : decode prog_8_method_18_code 152 = .ok (.iinc 7 1, 3) := by decide +kernel
theorem d_Mo_turnsOf_155 : decode prog_8_method_18_code 155 = .ok (.goto (-38), 3) := by decide +kernel
theorem d_Mo_turnsOf_158 : decode prog_8_method_18_code 158 = .ok (.aload_n 0, 1) := by decide +kernel
theorem d_Mo_turnsOf_159 : decode prog_8_method_18_code 159 = .ok (.getfield 66, 3) := by decide +kernel
theorem d_Mo_turnsOf_162 : decode prog_8_method_18_code 162 = .ok (.iload 7, 2) := by decide +kernel
theorem d_Mo_turnsOf_164 : decode prog_8_method_18_code 164 = .ok (.iconst 0, 1) := by decide +kernel
theorem d_Mo_turnsOf_165 : decode prog_8_method_18_code 165 = .ok (.bastore, 1) := by decide +kernel
theorem d_Mo_turnsOf_166 : decode prog_8_method_18_code 166 = .ok (.aload_n 0, 1) := by decide +kernel
theorem d_Mo_turnsOf_167 : decode prog_8_method_18_code 167 = .ok (.iload 7, 2) := by decide +kernel
theorem d_Mo_turnsOf_169 : decode prog_8_method_18_code 169 = .ok (.invokevirtual 128, 3) := by decide +kernel
theorem d_Mo_turnsOf_172 : decode prog_8_method_18_code 172 = .ok (.iinc 5 (-1), 3) := by decide +kernel
theorem d_Mo_turnsOf_175 : decode prog_8_method_18_code 175 = .ok (.goto (-87), 3) := by decide +kernel
theorem d_Mo_turnsOf_178 : decode prog_8_method_18_code 178 = .ok (.lload_n 3, 1) := by decide +kernel
theorem d_Mo_turnsOf_179 : decode prog_8_method_18_code 179 = .ok (.lreturn, 1) := by decide +kernel
theorem d_Mo_tellEnd_0 : decode prog_8_method_19_code 0 = .ok (.aload_n 0, 1) := by decide +kernel
theorem d_Mo_tellEnd_1 : decode prog_8_method_19_code 1 = .ok (.getfield 115, 3) := by decide +kernel
theorem d_Mo_tellEnd_4 : decode prog_8_method_19_code 4 = .ok (.iconst 1, 1) := by decide +kernel
theorem d_Mo_tellEnd_5 : decode prog_8_method_19_code 5 = .ok (.isub, 1) := by decide +kernel
theorem d_Mo_tellEnd_6 : decode prog_8_method_19_code 6 = .ok (.istore_n 3, 1) := by decide +kernel
theorem d_Mo_tellEnd_7 : decode prog_8_method_19_code 7 = .ok (.iload_n 3, 1) := by decide +kernel
theorem d_Mo_tellEnd_8 : decode prog_8_method_19_code 8 = .ok (.ifCond .lt 48, 3) := by decide +kernel
theorem d_Mo_tellEnd_11 : decode prog_8_method_19_code 11 = .ok (.aload_n 0, 1) := by decide +kernel
theorem d_Mo_tellEnd_12 : decode prog_8_method_19_code 12 = .ok (.getfield 54, 3) := by decide +kernel
theorem d_Mo_tellEnd_15 : decode prog_8_method_19_code 15 = .ok (.iload_n 3, 1) := by decide +kernel
theorem d_Mo_tellEnd_16 : decode prog_8_method_19_code 16 = .ok (.iaload, 1) := by decide +kernel
theorem d_Mo_tellEnd_17 : decode prog_8_method_19_code 17 = .ok (.aload_n 0, 1) := by decide +kernel
theorem d_Mo_tellEnd_18 : decode prog_8_method_19_code 18 = .ok (.getfield 106, 3) := by decide +kernel
theorem d_Mo_tellEnd_21 : decode prog_8_method_19_code 21 = .ok (.if_icmp .ne 35, 3) := by decide +kernel
theorem d_Mo_tellEnd_24 : decode prog_8_method_19_code 24 = .ok (.aload_n 0, 1) := by decide +kernel
theorem d_Mo_tellEnd_25 : decode prog_8_method_19_code 25 = .ok (.getfield 60, 3) := by decide +kernel
theorem d_Mo_tellEnd_28 : decode prog_8_method_19_code 28 = .ok (.iload_n 3, 1) := by decide +kernel
theorem d_Mo_tellEnd_29 : decode prog_8_method_19_code 29 = .ok (.aload_n 0, 1) := by decide +kernel
theorem d_Mo_tellEnd_30 : decode prog_8_method_19_code 30 = .ok (.getfield 57, 3) := by decide +kernel
theorem d_Mo_tellEnd_33 : decode prog_8_method_19_code 33 = .ok (.iload_n 3, 1) := by decide +kernel
theorem d_Mo_tellEnd_34 : decode prog_8_method_19_code 34 = .ok (.iaload, 1) := by decide +kernel
theorem d_Mo_tellEnd_35 : decode prog_8_method_19_code 35 = .ok (.iload_n 1, 1) := by decide +kernel
theorem d_Mo_tellEnd_36 : decode prog_8_method_19_code 36 = .ok (.if_icmp .ne 7, 3) := by decide +kernel
theorem d_Mo_tellEnd_39 : decode prog_8_method_19_code 39 = .ok (.iload_n 2, 1) := by decide +kernel
theorem d_Mo_tellEnd_40 : decode prog_8_method_19_code 40 = .ok (.goto 9, 3) := by decide +kernel
theorem d_Mo_tellEnd_43 : decode prog_8_method_19_code 43 = .ok (.aload_n 0, 1) := by decide +kernel
theorem d_Mo_tellEnd_44 : decode prog_8_method_19_code 44 = .ok (.getfield 60, 3) := by decide +kernel
theorem d_Mo_tellEnd_47 : decode prog_8_method_19_code 47 = .ok (.iload_n 3, 1) := by decide +kernel
theorem d_Mo_tellEnd_48 : decode prog_8_method_19_code 48 = .ok (.iaload, 1) := by decide +kernel
theorem d_Mo_tellEnd_49 : decode prog_8_method_19_code 49 = .ok (.iastore, 1) := by decide +kernel
theorem d_Mo_tellEnd_50 : decode prog_8_method_19_code 50 = .ok (.iinc 3 (-1), 3) := by decide +kernel
theorem d_Mo_tellEnd_53 : decode prog_8_method_19_code 53 = .ok (.goto (-46), 3) := by decide +kernel
theorem d_Mo_tellEnd_56 : decode prog_8_method_19_code 56 = .ok (.return_, 1) := by decide +kernel
theorem d_Mo_ownsAll_0 : decode prog_8_method_20_code 0 = .ok (.iconst 1, 1) := by decide +kernel
theorem d_Mo_ownsAll_1 : decode prog_8_method_20_code 1 = .ok (.istore_n 2, 1) := by decide +kernel
theorem d_Mo_ownsAll_2 : decode prog_8_method_20_code 2 = .ok (.iconst 0, 1) := by decide +kernel
theorem d_Mo_ownsAll_3 : decode prog_8_method_20_code 3 = .ok (.istore_n 3, 1) := by decide +kernel
theorem d_Mo_ownsAll_4 : decode prog_8_method_20_code 4 = .ok (.iload_n 3, 1) := by decide +kernel
theorem d_Mo_ownsAll_5 : decode prog_8_method_20_code 5 = .ok (.aload_n 0, 1) := by decide +kernel
theorem d_Mo_ownsAll_6 : decode prog_8_method_20_code 6 = .ok (.getfield 87, 3) := by decide +kernel
theorem d_Mo_ownsAll_9 : decode prog_8_method_20_code 9 = .ok (.if_icmp .ge 52, 3) := by decide +kernel
theorem d_Mo_ownsAll_12 : decode prog_8_method_20_code 12 = .ok (.iload_n 2, 1) := by decide +kernel
theorem d_Mo_ownsAll_13 : decode prog_8_method_20_code 13 = .ok (.ifCond .eq 40, 3) := by decide +kernel
theorem d_Mo_ownsAll_16 : decode prog_8_method_20_code 16 = .ok (.aload_n 0, 1) := by decide +kernel
theorem d_Mo_ownsAll_17 : decode prog_8_method_20_code 17 = .ok (.iload_n 3, 1) := by decide +kernel
theorem d_Mo_ownsAll_18 : decode prog_8_method_20_code 18 = .ok (.iconst 1, 1) := by decide +kernel
theorem d_Mo_ownsAll_19 : decode prog_8_method_20_code 19 = .ok (.iload_n 1, 1) := by decide +kernel
theorem d_Mo_ownsAll_20 : decode prog_8_method_20_code 20 = .ok (.invokevirtual 118, 3) := by decide +kernel
theorem d_Mo_ownsAll_23 : decode prog_8_method_20_code 23 = .ok (.ifCond .eq 26, 3) := by decide +kernel
theorem d_Mo_ownsAll_26 : decode prog_8_method_20_code 26 = .ok (.aload_n 0, 1) := by decide +kernel
theorem d_Mo_ownsAll_27 : decode prog_8_method_20_code 27 = .ok (.iload_n 3, 1) := by decide +kernel
theorem d_Mo_ownsAll_28 : decode prog_8_method_20_code 28 = .ok (.invokevirtual 121, 3) := by decide +kernel
theorem d_Mo_ownsAll_31 : decode prog_8_method_20_code 31 = .ok (.ifCond .ne 18, 3) := by decide +kernel
theorem d_Mo_ownsAll_34 : decode prog_8_method_20_code 34 = .ok (.aload_n 0, 1) := by decide +kernel
theorem d_Mo_ownsAll_35 : decode prog_8_method_20_code 35 = .ok (.getfield 16, 3) := by decide +kernel
theorem d_Mo_ownsAll_38 : decode prog_8_method_20_code 38 = .ok (.aload_n 0, 1) := by decide +kernel
theorem d_Mo_ownsAll_39 : decode prog_8_method_20_code 39 = .ok (.getfield 39, 3) := by decide +kernel
theorem d_Mo_ownsAll_42 : decode prog_8_method_20_code 42 = .ok (.iload_n 3, 1) := by decide +kernel
theorem d_Mo_ownsAll_43 : decode prog_8_method_20_code 43 = .ok (.iaload, 1) := by decide +kernel
theorem d_Mo_ownsAll_44 : decode prog_8_method_20_code 44 = .ok (.iaload, 1) := by decide +kernel
theorem d_Mo_ownsAll_45 : decode prog_8_method_20_code 45 = .ok (.iload_n 1, 1) := by decide +kernel
theorem d_Mo_ownsAll_46 : decode prog_8_method_20_code 46 = .ok (.if_icmp .ne 7, 3) := by decide +kernel
theorem d_Mo_ownsAll_49 : decode prog_8_method_20_code 49 = .ok (.iconst 1, 1) := by decide +kernel
theorem d_Mo_ownsAll_50 : decode prog_8_method_20_code 50 = .ok (.goto 4, 3) := by decide +kernel
theorem d_Mo_ownsAll_53 : decode prog_8_method_20_code 53 = .ok (.iconst 0, 1) := by decide +kernel
theorem d_Mo_ownsAll_54 : decode prog_8_method_20_code 54 = .ok (.istore_n 2, 1) := by decide +kernel
theorem d_Mo_ownsAll_55 : decode prog_8_method_20_code 55 = .ok (.iinc 3 1, 3) := by decide +kernel
theorem d_Mo_ownsAll_58 : decode prog_8_method_20_code 58 = .ok (.goto (-54), 3) := by decide +kernel
theorem d_Mo_ownsAll_61 : decode prog_8_method_20_code 61 = .ok (.iload_n 2, 1) := by decide +kernel
theorem d_Mo_ownsAll_62 : decode prog_8_method_20_code 62 = .ok (.ireturn, 1) := by decide +kernel
theorem d_Mo_act_0 : decode prog_8_method_21_code 0 = .ok (.aload_n 0, 1) := by decide +kernel
theorem d_Mo_act_1 : decode prog_8_method_21_code 1 = .ok (.iload_n 1, 1) := by decide +kernel
theorem d_Mo_act_2 : decode prog_8_method_21_code 2 = .ok (.invokevirtual 132, 3) := by decide +kernel
theorem d_Mo_act_5 : decode prog_8_method_21_code 5 = .ok (.ifCond .ne 17, 3) := by decide +kernel
theorem d_Mo_act_8 : decode prog_8_method_21_code 8 = .ok (.aload_n 0, 1) := by decide +kernel
theorem d_Mo_act_9 : decode prog_8_method_21_code 9 = .ok (.getfield 48, 3) := by decide +kernel
theorem d_Mo_act_12 : decode prog_8_method_21_code 12 = .ok (.iload_n 1, 1) := by decide +kernel
theorem d_Mo_act_13 : decode prog_8_method_21_code 13 = .ok (.iconst 1, 1) := by decide +kernel
theorem d_Mo_act_14 : decode prog_8_method_21_code 14 = .ok (.bastore, 1) := by decide +kernel
theorem d_Mo_act_15 : decode prog_8_method_21_code 15 = .ok (.aload_n 0, 1) := by decide +kernel
theorem d_Mo_act_16 : decode prog_8_method_21_code 16 = .ok (.iload_n 1, 1) := by decide +kernel
theorem d_Mo_act_17 : decode prog_8_method_21_code 17 = .ok (.iconst 1, 1) := by decide +kernel
theorem d_Mo_act_18 : decode prog_8_method_21_code 18 = .ok (.invokevirtual 135, 3) := by decide +kernel
theorem d_Mo_act_21 : decode prog_8_method_21_code 21 = .ok (.return_, 1) := by decide +kernel
theorem d_Mo_act_22 : decode prog_8_method_21_code 22 = .ok (.aload_n 0, 1) := by decide +kernel
theorem d_Mo_act_23 : decode prog_8_method_21_code 23 = .ok (.getfield 48, 3) := by decide +kernel
theorem d_Mo_act_26 : decode prog_8_method_21_code 26 = .ok (.iload_n 1, 1) := by decide +kernel
theorem d_Mo_act_27 : decode prog_8_method_21_code 27 = .ok (.iconst 0, 1) := by decide +kernel
theorem d_Mo_act_28 : decode prog_8_method_21_code 28 = .ok (.bastore, 1) := by decide +kernel
theorem d_Mo_act_29 : decode prog_8_method_21_code 29 = .ok (.iconst 0, 1) := by decide +kernel
theorem d_Mo_act_30 : decode prog_8_method_21_code 30 = .ok (.istore_n 2, 1) := by decide +kernel
theorem d_Mo_act_31 : decode prog_8_method_21_code 31 = .ok (.iload_n 2, 1) := by decide +kernel
theorem d_Mo_act_32 : decode prog_8_method_21_code 32 = .ok (.aload_n 0, 1) := by decide +kernel
theorem d_Mo_act_33 : decode prog_8_method_21_code 33 = .ok (.getfield 87, 3) := by decide +kernel
theorem d_Mo_act_36 : decode prog_8_method_21_code 36 = .ok (.if_icmp .ge 84, 3) := by decide +kernel
theorem d_Mo_act_39 : decode prog_8_method_21_code 39 = .ok (.aload_n 0, 1) := by decide +kernel
theorem d_Mo_act_40 : decode prog_8_method_21_code 40 = .ok (.iload_n 2, 1) := by decide +kernel
theorem d_Mo_act_41 : decode prog_8_method_21_code 41 = .ok (.iconst 0, 1) := by decide +kernel
theorem d_Mo_act_42 : decode prog_8_method_21_code 42 = .ok (.iload_n 1, 1) := by decide +kernel
theorem d_Mo_act_43 : decode prog_8_method_21_code 43 = .ok (.invokevirtual 118, 3) := by decide +kernel
theorem d_Mo_act_46 : decode prog_8_method_21_code 46 = .ok (.ifCond .eq 23, 3) := by decide +kernel
theorem d_Mo_act_49 : decode prog_8_method_21_code 49 = .ok (.aload_n 0, 1) := by decide +kernel
theorem d_Mo_act_50 : decode prog_8_method_21_code 50 = .ok (.getfield 7, 3) := by decide +kernel
theorem d_Mo_act_53 : decode prog_8_method_21_code 53 = .ok (.aload_n 0, 1) := by decide +kernel
theorem d_Mo_act_54 : decode prog_8_method_21_code 54 = .ok (.getfield 39, 3) := by decide +kernel
theorem d_Mo_act_57 : decode prog_8_method_21_code 57 = .ok (.iload_n 2, 1) := by decide +kernel
theorem d_Mo_act_58 : decode prog_8_method_21_code 58 = .ok (.iaload, 1) := by decide +kernel
theorem d_Mo_act_59 : decode prog_8_method_21_code 59 = .ok (.aload_n 0, 1) := by decide +kernel
theorem d_Mo_act_60 : decode prog_8_method_21_code 60 = .ok (.getfield 42, 3) := by decide +kernel
theorem d_Mo_act_63 : decode prog_8_method_21_code 63 = .ok (.iload_n 2, 1) := by decide +kernel
theorem d_Mo_act_64 : decode prog_8_method_21_code 64 = .ok (.laload, 1) := by decide +kernel
theorem d_Mo_act_65 : decode prog_8_method_21_code 65 = .ok (.lastore, 1) := by decide +kernel
theorem d_Mo_act_66 : decode prog_8_method_21_code 66 = .ok (.goto 48, 3) := by decide +kernel
theorem d_Mo_act_69 : decode prog_8_method_21_code 69 = .ok (.aload_n 0, 1) := by decide +kernel
theorem d_Mo_act_70 : decode prog_8_method_21_code 70 = .ok (.iload_n 2, 1) := by decide +kernel
theorem d_Mo_act_71 : decode prog_8_method_21_code 71 = .ok (.iconst 1, 1) := by decide +kernel
theorem d_Mo_act_72 : decode prog_8_method_21_code 72 = .ok (.iload_n 1, 1) := by decide +kernel
theorem d_Mo_act_73 : decode prog_8_method_21_code 73 = .ok (.invokevirtual 118, 3) := by decide +kernel
theorem d_Mo_act_76 : decode prog_8_method_21_code 76 = .ok (.ifCond .eq 38, 3) := by decide +kernel
theorem d_Mo_act_79 : decode prog_8_method_21_code 79 = .ok (.aload_n 0, 1) := by decide +kernel
theorem d_Mo_act_80 : decode prog_8_method_21_code 80 = .ok (.iload_n 2, 1) := by decide +kernel
theorem d_Mo_act_81 : decode prog_8_method_21_code 81 = .ok (.invokevirtual 121, 3) := by decide +kernel
theorem d_Mo_act_84 : decode prog_8_method_21_code 84 = .ok (.ifCond .eq 30, 3) := by decide +kernel
theorem d_Mo_act_87 : decode prog_8_method_21_code 87 = .ok (.aload_n 0, 1) := by decide +kernel
theorem d_Mo_act_88 : decode prog_8_method_21_code 88 = .ok (.getfield 16, 3) := by decide +kernel
theorem d_Mo_act_91 : decode prog_8_method_21_code 91 = .ok (.aload_n 0, 1) := by decide +kernel
theorem d_Mo_act_92 : decode prog_8_method_21_code 92 = .ok (.getfield 39, 3) := by decide +kernel
theorem d_Mo_act_95 : decode prog_8_method_21_code 95 = .ok (.iload_n 2, 1) := by decide +kernel
theorem d_Mo_act_96 : decode prog_8_method_21_code 96 = .ok (.iaload, 1) := by decide +kernel
theorem d_Mo_act_97 : decode prog_8_method_21_code 97 = .ok (.iaload, 1) := by decide +kernel
theorem d_Mo_act_98 : decode prog_8_method_21_code 98 = .ok (.iload_n 1, 1) := by decide +kernel
theorem d_Mo_act_99 : decode prog_8_method_21_code 99 = .ok (.if_icmp .ne 15, 3) := by decide +kernel
theorem d_Mo_act_102 : decode prog_8_method_21_code 102 = .ok (.aload_n 0, 1) := by decide +kernel
theorem d_Mo_act_103 : decode prog_8_method_21_code 103 = .ok (.getfield 16, 3) := by decide +kernel
theorem d_Mo_act_106 : decode prog_8_method_21_code 106 = .ok (.aload_n 0, 1) := by decide +kernel
theorem d_Mo_act_107 : decode prog_8_method_21_code 107 = .ok (.getfield 39, 3) := by decide +kernel
theorem d_Mo_act_110 : decode prog_8_method_21_code 110 = .ok (.iload_n 2, 1) := by decide +kernel
theorem d_Mo_act_111 : decode prog_8_method_21_code 111 = .ok (.iaload, 1) := by decide +kernel
theorem d_Mo_act_112 : decode prog_8_method_21_code 112 = .ok (.iconst (-1), 1) := by decide +kernel
theorem d_Mo_act_113 : decode prog_8_method_21_code 113 = .ok (.iastore, 1) := by decide +kernel
theorem d_Mo_act_114 : decode prog_8_method_21_code 114 = .ok (.iinc 2 1, 3) := by decide +kernel
theorem d_Mo_act_117 : decode prog_8_method_21_code 117 = .ok (.goto (-86), 3) := by decide +kernel
theorem d_Mo_act_120 : decode prog_8_method_21_code 120 = .ok (.aload_n 0, 1) := by decide +kernel
theorem d_Mo_act_121 : decode prog_8_method_21_code 121 = .ok (.getfield 45, 3) := by decide +kernel
theorem d_Mo_act_124 : decode prog_8_method_21_code 124 = .ok (.iload_n 1, 1) := by decide +kernel
theorem d_Mo_act_125 : decode prog_8_method_21_code 125 = .ok (.dup2, 1) := by decide +kernel
theorem d_Mo_act_126 : decode prog_8_method_21_code 126 = .ok (.iaload, 1) := by decide +kernel
theorem d_Mo_act_127 : decode prog_8_method_21_code 127 = .ok (.iconst 1, 1) := by decide +kernel
theorem d_Mo_act_128 : decode prog_8_method_21_code 128 = .ok (.iadd, 1) := by decide +kernel
theorem d_Mo_act_129 : decode prog_8_method_21_code 129 = .ok (.iastore, 1) := by decide +kernel
theorem d_Mo_act_130 : decode prog_8_method_21_code 130 = .ok (.return_, 1) := by decide +kernel
theorem d_Mo_end_0 : decode prog_8_method_22_code 0 = .ok (.iconst 0, 1) := by decide +kernel
theorem d_Mo_end_1 : decode prog_8_method_22_code 1 = .ok (.istore_n 1, 1) := by decide +kernel
theorem d_Mo_end_2 : decode prog_8_method_22_code 2 = .ok (.iload_n 1, 1) := by decide +kernel
theorem d_Mo_end_3 : decode prog_8_method_22_code 3 = .ok (.aload_n 0, 1) := by decide +kernel
theorem d_Mo_end_4 : decode prog_8_method_22_code 4 = .ok (.getfield 75, 3) := by decide +kernel
theorem d_Mo_end_7 : decode prog_8_method_22_code 7 = .ok (.if_icmp .ge 81, 3) := by decide +kernel
theorem d_Mo_end_10 : decode prog_8_method_22_code 10 = .ok (.aload_n 0, 1) := by decide +kernel
theorem d_Mo_end_11 : decode prog_8_method_22_code 11 = .ok (.getfield 63, 3) := by decide +kernel
theorem d_Mo_end_14 : decode prog_8_method_22_code 14 = .ok (.iload_n 1, 1) := by decide +kernel
theorem d_Mo_end_15 : decode prog_8_method_22_code 15 = .ok (.baload, 1) := by decide +kernel
theorem d_Mo_end_16 : decode prog_8_method_22_code 16 = .ok (.ifCond .eq 66, 3) := by decide +kernel
theorem d_Mo_end_19 : decode prog_8_method_22_code 19 = .ok (.aload_n 0, 1) := by decide +kernel
theorem d_Mo_end_20 : decode prog_8_method_22_code 20 = .ok (.getfield 69, 3) := by decide +kernel
theorem d_Mo_end_23 : decode prog_8_method_22_code 23 = .ok (.iload_n 1, 1) := by decide +kernel
theorem d_Mo_end_24 : decode prog_8_method_22_code 24 = .ok (.baload, 1) := by decide +kernel
theorem d_Mo_end_25 : decode prog_8_method_22_code 25 = .ok (.ifCond .eq 57, 3) := by decide +kernel
theorem d_Mo_end_28 : decode prog_8_method_22_code 28 = .ok (.aload_n 0, 1) := by decide +kernel
theorem d_Mo_end_29 : decode prog_8_method_22_code 29 = .ok (.getfield 51, 3) := by decide +kernel
theorem d_Mo_end_32 : decode prog_8_method_22_code 32 = .ok (.iload_n 1, 1) := by decide +kernel
theorem d_Mo_end_33 : decode prog_8_method_22_code 33 = .ok (.aload_n 0, 1) := by decide +kernel
theorem d_Mo_end_34 : decode prog_8_method_22_code 34 = .ok (.getfield 106, 3) := by decide +kernel
theorem d_Mo_end_37 : decode prog_8_method_22_code 37 = .ok (.iastore, 1) := by decide +kernel
theorem d_Mo_end_38 : decode prog_8_method_22_code 38 = .ok (.aload_n 0, 1) := by decide +kernel
theorem d_Mo_end_39 : decode prog_8_method_22_code 39 = .ok (.getfield 48, 3) := by decide +kernel
theorem d_Mo_end_42 : decode prog_8_method_22_code 42 = .ok (.iload_n 1, 1) := by decide +kernel
theorem d_Mo_end_43 : decode prog_8_method_22_code 43 = .ok (.iconst 0, 1) := by decide +kernel
theorem d_Mo_end_44 : decode prog_8_method_22_code 44 = .ok (.bastore, 1) := by decide +kernel
theorem d_Mo_end_45 : decode prog_8_method_22_code 45 = .ok (.aload_n 0, 1) := by decide +kernel
theorem d_Mo_end_46 : decode prog_8_method_22_code 46 = .ok (.iload_n 1, 1) := by decide +kernel
theorem d_Mo_end_47 : decode prog_8_method_22_code 47 = .ok (.iconst 2, 1) := by decide +kernel
theorem d_Mo_end_48 : decode prog_8_method_22_code 48 = .ok (.invokevirtual 135, 3) := by decide +kernel
theorem d_Mo_end_51 : decode prog_8_method_22_code 51 = .ok (.iconst 4, 1) := by decide +kernel
theorem d_Mo_end_52 : decode prog_8_method_22_code 52 = .ok (.iload_n 1, 1) := by decide +kernel
theorem d_Mo_end_53 : decode prog_8_method_22_code 53 = .ok (.imul, 1) := by decide +kernel
theorem d_Mo_end_54 : decode prog_8_method_22_code 54 = .ok (.istore_n 2, 1) := by decide +kernel
theorem d_Mo_end_55 : decode prog_8_method_22_code 55 = .ok (.iload_n 2, 1) := by decide +kernel
theorem d_Mo_end_56 : decode prog_8_method_22_code 56 = .ok (.iconst 4, 1) := by decide +kernel
theorem d_Mo_end_57 : decode prog_8_method_22_code 57 = .ok (.iload_n 1, 1) := by decide +kernel
theorem d_Mo_end_58 : decode prog_8_method_22_code 58 = .ok (.imul, 1) := by decide +kernel
theorem d_Mo_end_59 : decode prog_8_method_22_code 59 = .ok (.iconst 4, 1) := by decide +kernel
theorem d_Mo_end_60 : decode prog_8_method_22_code 60 = .ok (.iadd, 1) := by decide +kernel
theorem d_Mo_end_61 : decode prog_8_method_22_code 61 = .ok (.if_icmp .ge 21, 3) := by decide +kernel
theorem d_Mo_end_64 : decode prog_8_method_22_code 64 = .ok (.aload_n 0, 1) := by decide +kernel
theorem d_Mo_end_65 : decode prog_8_method_22_code 65 = .ok (.getfield 7, 3) := by decide +kernel
theorem d_Mo_end_68 : decode prog_8_method_22_code 68 = .ok (.iload_n 2, 1) := by decide +kernel
theorem d_Mo_end_69 : decode prog_8_method_22_code 69 = .ok (.aload_n 0, 1) := by decide +kernel
theorem d_Mo_end_70 : decode prog_8_method_22_code 70 = .ok (.getfield 13, 3) := by decide +kernel
theorem d_Mo_end_73 : decode prog_8_method_22_code 73 = .ok (.iload_n 2, 1) := by decide +kernel
theorem d_Mo_end_74 : decode prog_8_method_22_code 74 = .ok (.laload, 1) := by decide +kernel
theorem d_Mo_end_75 : decode prog_8_method_22_code 75 = .ok (.lastore, 1) := by decide +kernel
theorem d_Mo_end_76 : decode prog_8_method_22_code 76 = .ok (.iinc 2 1, 3) := by decide +kernel
theorem d_Mo_end_79 : decode prog_8_method_22_code 79 = .ok (.goto (-24), 3) := by decide +kernel
theorem d_Mo_end_82 : decode prog_8_method_22_code 82 = .ok (.iinc 1 1, 3) := by decide +kernel
theorem d_Mo_end_85 : decode prog_8_method_22_code 85 = .ok (.goto (-83), 3) := by decide +kernel
theorem d_Mo_end_88 : decode prog_8_method_22_code 88 = .ok (.iconst 0, 1) := by decide +kernel
theorem d_Mo_end_89 : decode prog_8_method_22_code 89 = .ok (.istore_n 1, 1) := by decide +kernel
theorem d_Mo_end_90 : decode prog_8_method_22_code 90 = .ok (.iload_n 1, 1) := by decide +kernel
theorem d_Mo_end_91 : decode prog_8_method_22_code 91 = .ok (.bipush 16, 2) := by decide +kernel
theorem d_Mo_end_93 : decode prog_8_method_22_code 93 = .ok (.if_icmp .ge 92, 3) := by decide +kernel
theorem d_Mo_end_96 : decode prog_8_method_22_code 96 = .ok (.iconst 0, 1) := by decide +kernel
theorem d_Mo_end_97 : decode prog_8_method_22_code 97 = .ok (.istore_n 2, 1) := by decide +kernel
theorem d_Mo_end_98 : decode prog_8_method_22_code 98 = .ok (.iload_n 2, 1) := by decide +kernel
theorem d_Mo_end_99 : decode prog_8_method_22_code 99 = .ok (.aload_n 0, 1) := by decide +kernel
theorem d_Mo_end_100 : decode prog_8_method_22_code 100 = .ok (.getfield 75, 3) := by decide +kernel
theorem d_Mo_end_103 : decode prog_8_method_22_code 103 = .ok (.if_icmp .ge 76, 3) := by decide +kernel
theorem d_Mo_end_106 : decode prog_8_method_22_code 106 = .ok (.aload_n 0, 1) := by decide +kernel
theorem d_Mo_end_107 : decode prog_8_method_22_code 107 = .ok (.getfield 72, 3) := by decide +kernel
theorem d_Mo_end_110 : decode prog_8_method_22_code 110 = .ok (.bipush 8, 2) := by decide +kernel
theorem d_Mo_end_112 : decode prog_8_method_22_code 112 = .ok (.iload_n 1, 1) := by decide +kernel
theorem d_Mo_end_113 : decode prog_8_method_22_code 113 = .ok (.imul, 1) := by decide +kernel
theorem d_Mo_end_114 : decode prog_8_method_22_code 114 = .ok (.iload_n 2, 1) := by decide +kernel
theorem d_Mo_end_115 : decode prog_8_method_22_code 115 = .ok (.iadd, 1) := by decide +kernel
theorem d_Mo_end_116 : decode prog_8_method_22_code 116 = .ok (.baload, 1) := by decide +kernel
theorem d_Mo_end_117 : decode prog_8_method_22_code 117 = .ok (.ifCond .eq 34, 3) := by decide +kernel
theorem d_Mo_end_120 : decode prog_8_method_22_code 120 = .ok (.aload_n 0, 1) := by decide +kernel
theorem d_Mo_end_121 : decode prog_8_method_22_code 121 = .ok (.getfield 16, 3) := by decide +kernel
theorem d_Mo_end_124 : decode prog_8_method_22_code 124 = .ok (.iload_n 1, 1) := by decide +kernel
theorem d_Mo_end_125 : decode prog_8_method_22_code 125 = .ok (.iaload, 1) := by decide +kernel
theorem d_Mo_end_126 : decode prog_8_method_22_code 126 = .ok (.iconst (-1), 1) := by decide +kernel
theorem d_Mo_end_127 : decode prog_8_method_22_code 127 = .ok (.if_icmp .ne 24, 3) := by decide +kernel
theorem d_Mo_end_130 : decode prog_8_method_22_code 130 = .ok (.aload_n 0, 1) := by decide +kernel
theorem d_Mo_end_131 : decode prog_8_method_22_code 131 = .ok (.getfield 26, 3) := by decide +kernel
theorem d_Mo_end_134 : decode prog_8_method_22_code 134 = .ok (.bipush 16, 2) := by decide +kernel
theorem d_Mo_end_136 : decode prog_8_method_22_code 136 = .ok (.aload_n 0, 1) := by decide +kernel
theorem d_Mo_end_137 : decode prog_8_method_22_code 137 = .ok (.getfield 106, 3) := by decide +kernel
theorem d_Mo_end_140 : decode prog_8_method_22_code 140 = .ok (.imul, 1) := by decide +kernel
theorem d_Mo_end_141 : decode prog_8_method_22_code 141 = .ok (.iload_n 1, 1) := by decide +kernel
theorem d_Mo_end_142 : decode prog_8_method_22_code 142 = .ok (.iadd, 1) := by decide +kernel
theorem d_Mo_end_143 : decode prog_8_method_22_code 143 = .ok (.baload, 1) := by decide +kernel
theorem d_Mo_end_144 : decode prog_8_method_22_code 144 = .ok (.ifCond .ne 7, 3) := by decide +kernel
theorem d_Mo_end_147 : decode prog_8_method_22_code 147 = .ok (.iconst 1, 1) := by decide +kernel
theorem d_Mo_end_148 : decode prog_8_method_22_code 148 = .ok (.goto 4, 3) := by decide +kernel
theorem d_Mo_end_151 : decode prog_8_method_22_code 151 = .ok (.iconst 0, 1) := by decide +kernel
theorem d_Mo_end_152 : decode prog_8_method_22_code 152 = .ok (.istore_n 3, 1) := by decide +kernel
theorem d_Mo_end_153 : decode prog_8_method_22_code 153 = .ok (.aload_n 0, 1) := by decide +kernel
theorem d_Mo_end_154 : decode prog_8_method_22_code 154 = .ok (.getfield 16, 3) := by decide +kernel
theorem d_Mo_end_157 : decode prog_8_method_22_code 157 = .ok (.iload_n 1, 1) := by decide +kernel
theorem d_Mo_end_158 : decode prog_8_method_22_code 158 = .ok (.iload_n 3, 1) := by decide +kernel
theorem d_Mo_end_159 : decode prog_8_method_22_code 159 = .ok (.ifCond .eq 7, 3) := by decide +kernel
theorem d_Mo_end_162 : decode prog_8_method_22_code 162 = .ok (.iload_n 2, 1) := by decide +kernel
theorem d_Mo_end_163 : decode prog_8_method_22_code 163 = .ok (.goto 9, 3) := by decide +kernel
theorem d_Mo_end_166 : decode prog_8_method_22_code 166 = .ok (.aload_n 0, 1) := by decide +kernel
theorem d_Mo_end_167 : decode prog_8_method_22_code 167 = .ok (.getfield 16, 3) := by decide +kernel
theorem d_Mo_end_170 : decode prog_8_method_22_code 170 = .ok (.iload_n 1, 1) := by decide +kernel
theorem d_Mo_end_171 : decode prog_8_method_22_code 171 = .ok (.iaload, 1) := by decide +kernel
theorem d_Mo_end_172 : decode prog_8_method_22_code 172 = .ok (.iastore, 1) := by decide +kernel
theorem d_Mo_end_173 : decode prog_8_method_22_code 173 = .ok (.iinc 2 1, 3) := by decide +kernel
theorem d_Mo_end_176 : decode prog_8_method_22_code 176 = .ok (.goto (-78), 3) := by decide +kernel
theorem d_Mo_end_179 : decode prog_8_method_22_code 179 = .ok (.iinc 1 1, 3) := by decide +kernel
theorem d_Mo_end_182 : decode prog_8_method_22_code 182 = .ok (.goto (-92), 3) := by decide +kernel
theorem d_Mo_end_185 : decode prog_8_method_22_code 185 = .ok (.iconst 0, 1) := by decide +kernel
theorem d_Mo_end_186 : decode prog_8_method_22_code 186 = .ok (.istore_n 1, 1) := by decide +kernel
theorem d_Mo_end_187 : decode prog_8_method_22_code 187 = .ok (.iload_n 1, 1) := by decide +kernel
theorem d_Mo_end_188 : decode prog_8_method_22_code 188 = .ok (.aload_n 0, 1) := by decide +kernel
theorem d_Mo_end_189 : decode prog_8_method_22_code 189 = .ok (.getfield 75, 3) := by decide +kernel
theorem d_Mo_end_192 : decode prog_8_method_22_code 192 = .ok (.if_icmp .ge 32, 3) := by decide +kernel
theorem d_Mo_end_195 : decode prog_8_method_22_code 195 = .ok (.aload_n 0, 1) := by decide +kernel
theorem d_Mo_end_196 : decode prog_8_method_22_code 196 = .ok (.getfield 63, 3) := by decide +kernel
theorem d_Mo_end_199 : decode prog_8_method_22_code 199 = .ok (.iload_n 1, 1) := by decide +kernel
theorem d_Mo_end_200 : decode prog_8_method_22_code 200 = .ok (.baload, 1) := by decide +kernel
theorem d_Mo_end_201 : decode prog_8_method_22_code 201 = .ok (.ifCond .eq 17, 3) := by decide +kernel
theorem d_Mo_end_204 : decode prog_8_method_22_code 204 = .ok (.aload_n 0, 1) := by decide +kernel
theorem d_Mo_end_205 : decode prog_8_method_22_code 205 = .ok (.getfield 69, 3) := by decide +kernel
theorem d_Mo_end_208 : decode prog_8_method_22_code 208 = .ok (.iload_n 1, 1) := by decide +kernel
theorem d_Mo_end_209 : decode prog_8_method_22_code 209 = .ok (.baload, 1) := by decide +kernel
theorem d_Mo_end_210 : decode prog_8_method_22_code 210 = .ok (.ifCond .ne 8, 3) := by decide +kernel
theorem d_Mo_end_213 : decode prog_8_method_22_code 213 = .ok (.aload_n 0, 1) := by decide +kernel
theorem d_Mo_end_214 : decode prog_8_method_22_code 214 = .ok (.iload_n 1, 1) := by decide +kernel
theorem d_Mo_end_215 : decode prog_8_method_22_code 215 = .ok (.invokevirtual 139, 3) := by decide +kernel
theorem d_Mo_end_218 : decode prog_8_method_22_code 218 = .ok (.iinc 1 1, 3) := by decide +kernel
theorem d_Mo_end_221 : decode prog_8_method_22_code 221 = .ok (.goto (-34), 3) := by decide +kernel
theorem d_Mo_end_224 : decode prog_8_method_22_code 224 = .ok (.iconst 0, 1) := by decide +kernel
theorem d_Mo_end_225 : decode prog_8_method_22_code 225 = .ok (.istore_n 1, 1) := by decide +kernel
theorem d_Mo_end_226 : decode prog_8_method_22_code 226 = .ok (.iload_n 1, 1) := by decide +kernel
theorem d_Mo_end_227 : decode prog_8_method_22_code 227 = .ok (.bipush 32, 2) := by decide +kernel
theorem d_Mo_end_229 : decode prog_8_method_22_code 229 = .ok (.if_icmp .ge 29, 3) := by decide +kernel
theorem d_Mo_end_232 : decode prog_8_method_22_code 232 = .ok (.aload_n 0, 1) := by decide +kernel
theorem d_Mo_end_233 : decode prog_8_method_22_code 233 = .ok (.getfield 20, 3) := by decide +kernel
theorem d_Mo_end_236 : decode prog_8_method_22_code 236 = .ok (.bipush 32, 2) := by decide +kernel
theorem d_Mo_end_238 : decode prog_8_method_22_code 238 = .ok (.aload_n 0, 1) := by decide +kernel
theorem d_Mo_end_239 : decode prog_8_method_22_code 239 = .ok (.getfield 106, 3) := by decide +kernel
theorem d_Mo_end_242 : decode prog_8_method_22_code 242 = .ok (.imul, 1) := by decide +kernel
theorem d_Mo_end_243 : decode prog_8_method_22_code 243 = .ok (.iload_n 1, 1) := by decide +kernel
theorem d_Mo_end_244 : decode prog_8_method_22_code 244 = .ok (.iadd, 1) := by decide +kernel
theorem d_Mo_end_245 : decode prog_8_method_22_code 245 = .ok (.aload_n 0, 1) := by decide +kernel
theorem d_Mo_end_246 : decode prog_8_method_22_code 246 = .ok (.getfield 7, 3) := by decide +kernel
theorem d_Mo_end_249 : decode prog_8_method_22_code 249 = .ok (.iload_n 1, 1) := by decide +kernel
theorem d_Mo_end_250 : decode prog_8_method_22_code 250 = .ok (.laload, 1) := by decide +kernel
theorem d_Mo_end_251 : decode prog_8_method_22_code 251 = .ok (.lastore, 1) := by decide +kernel
theorem d_Mo_end_252 : decode prog_8_method_22_code 252 = .ok (.iinc 1 1, 3) := by decide +kernel
theorem d_Mo_end_255 : decode prog_8_method_22_code 255 = .ok (.goto (-29), 3) := by decide +kernel
theorem d_Mo_end_258 : decode prog_8_method_22_code 258 = .ok (.iconst 0, 1) := by decide +kernel
theorem d_Mo_end_259 : decode prog_8_method_22_code 259 = .ok (.istore_n 1, 1) := by decide +kernel
theorem d_Mo_end_260 : decode prog_8_method_22_code 260 = .ok (.iload_n 1, 1) := by decide +kernel
theorem d_Mo_end_261 : decode prog_8_method_22_code 261 = .ok (.bipush 16, 2) := by decide +kernel
theorem d_Mo_end_263 : decode prog_8_method_22_code 263 = .ok (.if_icmp .ge 29, 3) := by decide +kernel
theorem d_Mo_end_266 : decode prog_8_method_22_code 266 = .ok (.aload_n 0, 1) := by decide +kernel
theorem d_Mo_end_267 : decode prog_8_method_22_code 267 = .ok (.getfield 23, 3) := by decide +kernel
theorem d_Mo_end_270 : decode prog_8_method_22_code 270 = .ok (.bipush 16, 2) := by decide +kernel
theorem d_Mo_end_272 : decode prog_8_method_22_code 272 = .ok (.aload_n 0, 1) := by decide +kernel
theorem d_Mo_end_273 : decode prog_8_method_22_code 273 = .ok (.getfield 106, 3) := by decide +kernel
theorem d_Mo_end_276 : decode prog_8_method_22_code 276 = .ok (.imul, 1) := by decide +kernel
theorem d_Mo_end_277 : decode prog_8_method_22_code 277 = .ok (.iload_n 1, 1) := by decide +kernel
theorem d_Mo_end_278 : decode prog_8_method_22_code 278 = .ok (.iadd, 1) := by decide +kernel
theorem d_Mo_end_279 : decode prog_8_method_22_code 279 = .ok (.aload_n 0, 1) := by decide +kernel
theorem d_Mo_end_280 : decode prog_8_method_22_code 280 = .ok (.getfield 16, 3) := by decide +kernel
theorem d_Mo_end_283 : decode prog_8_method_22_code 283 = .ok (.iload_n 1, 1) := by decide +kernel
theorem d_Mo_end_284 : decode prog_8_method_22_code 284 = .ok (.iaload, 1) := by decide +kernel
theorem d_Mo_end_285 : decode prog_8_method_22_code 285 = .ok (.iastore, 1) := by decide +kernel
theorem d_Mo_end_286 : decode prog_8_method_22_code 286 = .ok (.iinc 1 1, 3) := by decide +kernel
theorem d_Mo_end_289 : decode prog_8_method_22_code 289 = .ok (.goto (-29), 3) := by decide +kernel
theorem d_Mo_end_292 : decode prog_8_method_22_code 292 = .ok (.aload_n 0, 1) := by decide +kernel
theorem d_Mo_end_293 : decode prog_8_method_22_code 293 = .ok (.dup, 1) := by decide +kernel
theorem d_Mo_end_294 : decode prog_8_method_22_code 294 = .ok (.getfield 106, 3) := by decide +kernel
theorem d_Mo_end_297 : decode prog_8_method_22_code 297 = .ok (.iconst 1, 1) := by decide +kernel
theorem d_Mo_end_298 : decode prog_8_method_22_code 298 = .ok (.iadd, 1) := by decide +kernel
theorem d_Mo_end_299 : decode prog_8_method_22_code 299 = .ok (.putfield 106, 3) := by decide +kernel
theorem d_Mo_end_302 : decode prog_8_method_22_code 302 = .ok (.return_, 1) := by decide +kernel
theorem d_Mo_play_0 : decode prog_8_method_23_code 0 = .ok (.iload_n 3, 1) := by decide +kernel
theorem d_Mo_play_1 : decode prog_8_method_23_code 1 = .ok (.iconst 0, 1) := by decide +kernel
theorem d_Mo_play_2 : decode prog_8_method_23_code 2 = .ok (.bipush 64, 2) := by decide +kernel
theorem d_Mo_play_4 : decode prog_8_method_23_code 4 = .ok (.invokestatic 79, 3) := by decide +kernel
theorem d_Mo_play_7 : decode prog_8_method_23_code 7 = .ok (.ifCond .eq 10, 3) := by decide +kernel
theorem d_Mo_play_10 : decode prog_8_method_23_code 10 = .ok (.aload_n 0, 1) := by decide +kernel
theorem d_Mo_play_11 : decode prog_8_method_23_code 11 = .ok (.getfield 83, 3) := by decide +kernel
theorem d_Mo_play_14 : decode prog_8_method_23_code 14 = .ok (.ifCond .eq 5, 3) := by decide +kernel
theorem d_Mo_play_17 : decode prog_8_method_23_code 17 = .ok (.iconst (-1), 1) := by decide +kernel
theorem d_Mo_play_18 : decode prog_8_method_23_code 18 = .ok (.ireturn, 1) := by decide +kernel
theorem d_Mo_play_19 : decode prog_8_method_23_code 19 = .ok (.lload_n 1, 1) := by decide +kernel
theorem d_Mo_play_20 : decode prog_8_method_23_code 20 = .ok (.lstore 4, 2) := by decide +kernel
theorem d_Mo_play_22 : decode prog_8_method_23_code 22 = .ok (.iconst 0, 1) := by decide +kernel
theorem d_Mo_play_23 : decode prog_8_method_23_code 23 = .ok (.istore 6, 2) := by decide +kernel
theorem d_Mo_play_25 : decode prog_8_method_23_code 25 = .ok (.iload 6, 2) := by decide +kernel
theorem d_Mo_play_27 : decode prog_8_method_23_code 27 = .ok (.iload_n 3, 1) := by decide +kernel
theorem d_Mo_play_28 : decode prog_8_method_23_code 28 = .ok (.if_icmp .ge 62, 3) := by decide +kernel
theorem d_Mo_play_31 : decode prog_8_method_23_code 31 = .ok (.aload_n 0, 1) := by decide +kernel
theorem d_Mo_play_32 : decode prog_8_method_23_code 32 = .ok (.getfield 106, 3) := by decide +kernel
theorem d_Mo_play_35 : decode prog_8_method_23_code 35 = .ok (.bipush 64, 2) := by decide +kernel
theorem d_Mo_play_37 : decode prog_8_method_23_code 37 = .ok (.if_icmp .ge 53, 3) := by decide +kernel
theorem d_Mo_play_40 : decode prog_8_method_23_code 40 = .ok (.aload_n 0, 1) := by decide +kernel
theorem d_Mo_play_41 : decode prog_8_method_23_code 41 = .ok (.invokevirtual 142, 3) := by decide +kernel
theorem d_Mo_play_44 : decode prog_8_method_23_code 44 = .ok (.ifCond .le 46, 3) := by decide +kernel
theorem d_Mo_play_47 : decode prog_8_method_23_code 47 = .ok (.iconst 0, 1) := by decide +kernel
theorem d_Mo_play_48 : decode prog_8_method_23_code 48 = .ok (.istore 7, 2) := by decide +kernel
theorem d_Mo_play_50 : decode prog_8_method_23_code 50 = .ok (.iload 7, 2) := by decide +kernel
theorem d_Mo_play_52 : decode prog_8_method_23_code 52 = .ok (.sipush 128, 3) := by decide +kernel
theorem d_Mo_play_55 : decode prog_8_method_23_code 55 = .ok (.if_icmp .ge 17, 3) := by decide +kernel
theorem d_Mo_play_58 : decode prog_8_method_23_code 58 = .ok (.aload_n 0, 1) := by decide +kernel
theorem d_Mo_play_59 : decode prog_8_method_23_code 59 = .ok (.getfield 72, 3) := by decide +kernel
theorem d_Mo_play_62 : decode prog_8_method_23_code 62 = .ok (.iload 7, 2) := by decide +kernel
theorem d_Mo_play_64 : decode prog_8_method_23_code 64 = .ok (.iconst 0, 1) := by decide +kernel
theorem d_Mo_play_65 : decode prog_8_method_23_code 65 = .ok (.bastore, 1) := by decide +kernel
theorem d_Mo_play_66 : decode prog_8_method_23_code 66 = .ok (.iinc 7 1, 3) := by decide +kernel
theorem d_Mo_play_69 : decode prog_8_method_23_code 69 = .ok (.goto (-19), 3) := by decide +kernel
theorem d_Mo_play_72 : decode prog_8_method_23_code 72 = .ok (.aload_n 0, 1) := by decide +kernel
theorem d_Mo_play_73 : decode prog_8_method_23_code 73 = .ok (.lload 4, 2) := by decide +kernel
theorem d_Mo_play_75 : decode prog_8_method_23_code 75 = .ok (.invokevirtual 146, 3) := by decide +kernel
theorem d_Mo_play_78 : decode prog_8_method_23_code 78 = .ok (.lstore 4, 2) := by decide +kernel
theorem d_Mo_play_80 : decode prog_8_method_23_code 80 = .ok (.aload_n 0, 1) := by decide +kernel
theorem d_Mo_play_81 : decode prog_8_method_23_code 81 = .ok (.invokevirtual 150, 3) := by decide +kernel
theorem d_Mo_play_84 : decode prog_8_method_23_code 84 = .ok (.iinc 6 1, 3) := by decide +kernel
theorem d_Mo_play_87 : decode prog_8_method_23_code 87 = .ok (.goto (-62), 3) := by decide +kernel
theorem d_Mo_play_90 : decode prog_8_method_23_code 90 = .ok (.iload 6, 2) := by decide +kernel
theorem d_Mo_play_92 : decode prog_8_method_23_code 92 = .ok (.ireturn, 1) := by decide +kernel
theorem d_Mo_output_0 : decode prog_8_method_24_code 0 = .ok (.iload_n 1, 1) := by decide +kernel
theorem d_Mo_output_1 : decode prog_8_method_24_code 1 = .ok (.iconst 0, 1) := by decide +kernel
theorem d_Mo_output_2 : decode prog_8_method_24_code 2 = .ok (.iconst 4, 1) := by decide +kernel
theorem d_Mo_output_3 : decode prog_8_method_24_code 3 = .ok (.aload_n 0, 1) := by decide +kernel
theorem d_Mo_output_4 : decode prog_8_method_24_code 4 = .ok (.getfield 75, 3) := by decide +kernel
theorem d_Mo_output_7 : decode prog_8_method_24_code 7 = .ok (.imul, 1) := by decide +kernel
theorem d_Mo_output_8 : decode prog_8_method_24_code 8 = .ok (.iconst 1, 1) := by decide +kernel
theorem d_Mo_output_9 : decode prog_8_method_24_code 9 = .ok (.isub, 1) := by decide +kernel
theorem d_Mo_output_10 : decode prog_8_method_24_code 10 = .ok (.invokestatic 79, 3) := by decide +kernel
theorem d_Mo_output_13 : decode prog_8_method_24_code 13 = .ok (.ifCond .eq 17, 3) := by decide +kernel
theorem d_Mo_output_16 : decode prog_8_method_24_code 16 = .ok (.iload_n 2, 1) := by decide +kernel
theorem d_Mo_output_17 : decode prog_8_method_24_code 17 = .ok (.iconst (-1), 1) := by decide +kernel
theorem d_Mo_output_18 : decode prog_8_method_24_code 18 = .ok (.aload_n 0, 1) := by decide +kernel
theorem d_Mo_output_19 : decode prog_8_method_24_code 19 = .ok (.getfield 106, 3) := by decide +kernel
theorem d_Mo_output_22 : decode prog_8_method_24_code 22 = .ok (.iconst 1, 1) := by decide +kernel
theorem d_Mo_output_23 : decode prog_8_method_24_code 23 = .ok (.isub, 1) := by decide +kernel
theorem d_Mo_output_24 : decode prog_8_method_24_code 24 = .ok (.invokestatic 79, 3) := by decide +kernel
theorem d_Mo_output_27 : decode prog_8_method_24_code 27 = .ok (.ifCond .ne 5, 3) := by decide +kernel
theorem d_Mo_output_30 : decode prog_8_method_24_code 30 = .ok (.lconst 0, 1) := by decide +kernel
theorem d_Mo_output_31 : decode prog_8_method_24_code 31 = .ok (.lreturn, 1) := by decide +kernel
theorem d_Mo_output_32 : decode prog_8_method_24_code 32 = .ok (.iload_n 2, 1) := by decide +kernel
theorem d_Mo_output_33 : decode prog_8_method_24_code 33 = .ok (.iconst (-1), 1) := by decide +kernel
theorem d_Mo_output_34 : decode prog_8_method_24_code 34 = .ok (.if_icmp .ne 12, 3) := by decide +kernel
theorem d_Mo_output_37 : decode prog_8_method_24_code 37 = .ok (.aload_n 0, 1) := by decide +kernel
theorem d_Mo_output_38 : decode prog_8_method_24_code 38 = .ok (.getfield 7, 3) := by decide +kernel
theorem d_Mo_output_41 : decode prog_8_method_24_code 41 = .ok (.iload_n 1, 1) := by decide +kernel
theorem d_Mo_output_42 : decode prog_8_method_24_code 42 = .ok (.laload, 1) := by decide +kernel
theorem d_Mo_output_43 : decode prog_8_method_24_code 43 = .ok (.goto 14, 3) := by decide +kernel
theorem d_Mo_output_46 : decode prog_8_method_24_code 46 = .ok (.aload_n 0, 1) := by decide +kernel
theorem d_Mo_output_47 : decode prog_8_method_24_code 47 = .ok (.getfield 20, 3) := by decide +kernel
theorem d_Mo_output_50 : decode prog_8_method_24_code 50 = .ok (.bipush 32, 2) := by decide +kernel
theorem d_Mo_output_52 : decode prog_8_method_24_code 52 = .ok (.iload_n 2, 1) := by decide +kernel
theorem d_Mo_output_53 : decode prog_8_method_24_code 53 = .ok (.imul, 1) := by decide +kernel
theorem d_Mo_output_54 : decode prog_8_method_24_code 54 = .ok (.iload_n 1, 1) := by decide +kernel
theorem d_Mo_output_55 : decode prog_8_method_24_code 55 = .ok (.iadd, 1) := by decide +kernel
theorem d_Mo_output_56 : decode prog_8_method_24_code 56 = .ok (.laload, 1) := by decide +kernel
theorem d_Mo_output_57 : decode prog_8_method_24_code 57 = .ok (.lreturn, 1) := by decide +kernel
theorem d_Mo_owner_0 : decode prog_8_method_25_code 0 = .ok (.iload_n 1, 1) := by decide +kernel
theorem d_Mo_owner_1 : decode prog_8_method_25_code 1 = .ok (.iconst 0, 1) := by decide +kernel
theorem d_Mo_owner_2 : decode prog_8_method_25_code 2 = .ok (.bipush 15, 2) := by decide +kernel
theorem d_Mo_owner_4 : decode prog_8_method_25_code 4 = .ok (.invokestatic 79, 3) := by decide +kernel
theorem d_Mo_owner_7 : decode prog_8_method_25_code 7 = .ok (.ifCond .eq 17, 3) := by decide +kernel
theorem d_Mo_owner_10 : decode prog_8_method_25_code 10 = .ok (.iload_n 2, 1) := by decide +kernel
theorem d_Mo_owner_11 : decode prog_8_method_25_code 11 = .ok (.iconst (-1), 1) := by decide +kernel
theorem d_Mo_owner_12 : decode prog_8_method_25_code 12 = .ok (.aload_n 0, 1) := by decide +kernel
theorem d_Mo_owner_13 : decode prog_8_method_25_code 13 = .ok (.getfield 106, 3) := by decide +kernel
theorem d_Mo_owner_16 : decode prog_8_method_25_code 16 = .ok (.iconst 1, 1) := by decide +kernel
theorem d_Mo_owner_17 : decode prog_8_method_25_code 17 = .ok (.isub, 1) := by decide +kernel
theorem d_Mo_owner_18 : decode prog_8_method_25_code 18 = .ok (.invokestatic 79, 3) := by decide +kernel
theorem d_Mo_owner_21 : decode prog_8_method_25_code 21 = .ok (.ifCond .ne 5, 3) := by decide +kernel
theorem d_Mo_owner_24 : decode prog_8_method_25_code 24 = .ok (.iconst (-1), 1) := by decide +kernel
theorem d_Mo_owner_25 : decode prog_8_method_25_code 25 = .ok (.ireturn, 1) := by decide +kernel
theorem d_Mo_owner_26 : decode prog_8_method_25_code 26 = .ok (.iload_n 2, 1) := by decide +kernel
theorem d_Mo_owner_27 : decode prog_8_method_25_code 27 = .ok (.iconst (-1), 1) := by decide +kernel
theorem d_Mo_owner_28 : decode prog_8_method_25_code 28 = .ok (.if_icmp .ne 12, 3) := by decide +kernel
theorem d_Mo_owner_31 : decode prog_8_method_25_code 31 = .ok (.aload_n 0, 1) := by decide +kernel
theorem d_Mo_owner_32 : decode prog_8_method_25_code 32 = .ok (.getfield 16, 3) := by decide +kernel
theorem d_Mo_owner_35 : decode prog_8_method_25_code 35 = .ok (.iload_n 1, 1) := by decide +kernel
theorem d_Mo_owner_36 : decode prog_8_method_25_code 36 = .ok (.iaload, 1) := by decide +kernel
theorem d_Mo_owner_37 : decode prog_8_method_25_code 37 = .ok (.goto 14, 3) := by decide +kernel
theorem d_Mo_owner_40 : decode prog_8_method_25_code 40 = .ok (.aload_n 0, 1) := by decide +kernel
theorem d_Mo_owner_41 : decode prog_8_method_25_code 41 = .ok (.getfield 23, 3) := by decide +kernel
theorem d_Mo_owner_44 : decode prog_8_method_25_code 44 = .ok (.bipush 16, 2) := by decide +kernel
theorem d_Mo_owner_46 : decode prog_8_method_25_code 46 = .ok (.iload_n 2, 1) := by decide +kernel
theorem d_Mo_owner_47 : decode prog_8_method_25_code 47 = .ok (.imul, 1) := by decide +kernel
theorem d_Mo_owner_48 : decode prog_8_method_25_code 48 = .ok (.iload_n 1, 1) := by decide +kernel
theorem d_Mo_owner_49 : decode prog_8_method_25_code 49 = .ok (.iadd, 1) := by decide +kernel
theorem d_Mo_owner_50 : decode prog_8_method_25_code 50 = .ok (.iaload, 1) := by decide +kernel
theorem d_Mo_owner_51 : decode prog_8_method_25_code 51 = .ok (.ireturn, 1) := by decide +kernel
theorem d_Mo_state_0 : decode prog_8_method_26_code 0 = .ok (.aload_n 0, 1) := by decide +kernel
theorem d_Mo_state_1 : decode prog_8_method_26_code 1 = .ok (.iload_n 1, 1) := by decide +kernel
theorem d_Mo_state_2 : decode prog_8_method_26_code 2 = .ok (.invokevirtual 90, 3) := by decide +kernel
theorem d_Mo_state_5 : decode prog_8_method_26_code 5 = .ok (.ifCond .ne 5, 3) := by decide +kernel
theorem d_Mo_state_8 : decode prog_8_method_26_code 8 = .ok (.iconst (-1), 1) := by decide +kernel
theorem d_Mo_state_9 : decode prog_8_method_26_code 9 = .ok (.ireturn, 1) := by decide +kernel
theorem d_Mo_state_10 : decode prog_8_method_26_code 10 = .ok (.aload_n 0, 1) := by decide +kernel
theorem d_Mo_state_11 : decode prog_8_method_26_code 11 = .ok (.getfield 83, 3) := by decide +kernel
theorem d_Mo_state_14 : decode prog_8_method_26_code 14 = .ok (.ifCond .eq 7, 3) := by decide +kernel
theorem d_Mo_state_17 : decode prog_8_method_26_code 17 = .ok (.iconst 4, 1) := by decide +kernel
theorem d_Mo_state_18 : decode prog_8_method_26_code 18 = .ok (.goto 43, 3) := by decide +kernel
theorem d_Mo_state_21 : decode prog_8_method_26_code 21 = .ok (.aload_n 0, 1) := by decide +kernel
theorem d_Mo_state_22 : decode prog_8_method_26_code 22 = .ok (.getfield 51, 3) := by decide +kernel
theorem d_Mo_state_25 : decode prog_8_method_26_code 25 = .ok (.iload_n 1, 1) := by decide +kernel
theorem d_Mo_state_26 : decode prog_8_method_26_code 26 = .ok (.iaload, 1) := by decide +kernel
theorem d_Mo_state_27 : decode prog_8_method_26_code 27 = .ok (.iconst (-1), 1) := by decide +kernel
theorem d_Mo_state_28 : decode prog_8_method_26_code 28 = .ok (.if_icmp .eq 7, 3) := by decide +kernel
theorem d_Mo_state_31 : decode prog_8_method_26_code 31 = .ok (.iconst 2, 1) := by decide +kernel
theorem d_Mo_state_32 : decode prog_8_method_26_code 32 = .ok (.goto 29, 3) := by decide +kernel
theorem d_Mo_state_35 : decode prog_8_method_26_code 35 = .ok (.aload_n 0, 1) := by decide +kernel
theorem d_Mo_state_36 : decode prog_8_method_26_code 36 = .ok (.iload_n 1, 1) := by decide +kernel
theorem d_Mo_state_37 : decode prog_8_method_26_code 37 = .ok (.invokevirtual 109, 3) := by decide +kernel
theorem d_Mo_state_40 : decode prog_8_method_26_code 40 = .ok (.ifCond .eq 7, 3) := by decide +kernel
theorem d_Mo_state_43 : decode prog_8_method_26_code 43 = .ok (.iconst 3, 1) := by decide +kernel
theorem d_Mo_state_44 : decode prog_8_method_26_code 44 = .ok (.goto 17, 3) := by decide +kernel
theorem d_Mo_state_47 : decode prog_8_method_26_code 47 = .ok (.aload_n 0, 1) := by decide +kernel
theorem d_Mo_state_48 : decode prog_8_method_26_code 48 = .ok (.getfield 48, 3) := by decide +kernel
theorem d_Mo_state_51 : decode prog_8_method_26_code 51 = .ok (.iload_n 1, 1) := by decide +kernel
theorem d_Mo_state_52 : decode prog_8_method_26_code 52 = .ok (.baload, 1) := by decide +kernel
theorem d_Mo_state_53 : decode prog_8_method_26_code 53 = .ok (.ifCond .eq 7, 3) := by decide +kernel
theorem d_Mo_state_56 : decode prog_8_method_26_code 56 = .ok (.iconst 1, 1) := by decide +kernel
theorem d_Mo_state_57 : decode prog_8_method_26_code 57 = .ok (.goto 4, 3) := by decide +kernel
theorem d_Mo_state_60 : decode prog_8_method_26_code 60 = .ok (.iconst 0, 1) := by decide +kernel
theorem d_Mo_state_61 : decode prog_8_method_26_code 61 = .ok (.ireturn, 1) := by decide +kernel
theorem d_Mo_restart_0 : decode prog_8_method_27_code 0 = .ok (.aload_n 0, 1) := by decide +kernel
theorem d_Mo_restart_1 : decode prog_8_method_27_code 1 = .ok (.iload_n 1, 1) := by decide +kernel
theorem d_Mo_restart_2 : decode prog_8_method_27_code 2 = .ok (.invokevirtual 90, 3) := by decide +kernel
theorem d_Mo_restart_5 : decode prog_8_method_27_code 5 = .ok (.ifCond .eq 20, 3) := by decide +kernel
theorem d_Mo_restart_8 : decode prog_8_method_27_code 8 = .ok (.aload_n 0, 1) := by decide +kernel
theorem d_Mo_restart_9 : decode prog_8_method_27_code 9 = .ok (.getfield 83, 3) := by decide +kernel
theorem d_Mo_restart_12 : decode prog_8_method_27_code 12 = .ok (.ifCond .ne 13, 3) := by decide +kernel
theorem d_Mo_restart_15 : decode prog_8_method_27_code 15 = .ok (.aload_n 0, 1) := by decide +kernel
theorem d_Mo_restart_16 : decode prog_8_method_27_code 16 = .ok (.getfield 51, 3) := by decide +kernel
theorem d_Mo_restart_19 : decode prog_8_method_27_code 19 = .ok (.iload_n 1, 1) := by decide +kernel
theorem d_Mo_restart_20 : decode prog_8_method_27_code 20 = .ok (.iaload, 1) := by decide +kernel
theorem d_Mo_restart_21 : decode prog_8_method_27_code 21 = .ok (.iconst (-1), 1) := by decide +kernel
theorem d_Mo_restart_22 : decode prog_8_method_27_code 22 = .ok (.if_icmp .ne 5, 3) := by decide +kernel
theorem d_Mo_restart_25 : decode prog_8_method_27_code 25 = .ok (.iconst 0, 1) := by decide +kernel
theorem d_Mo_restart_26 : decode prog_8_method_27_code 26 = .ok (.ireturn, 1) := by decide +kernel
theorem d_Mo_restart_27 : decode prog_8_method_27_code 27 = .ok (.aload_n 0, 1) := by decide +kernel
theorem d_Mo_restart_28 : decode prog_8_method_27_code 28 = .ok (.getfield 51, 3) := by decide +kernel
theorem d_Mo_restart_31 : decode prog_8_method_27_code 31 = .ok (.iload_n 1, 1) := by decide +kernel
theorem d_Mo_restart_32 : decode prog_8_method_27_code 32 = .ok (.iconst (-1), 1) := by decide +kernel
theorem d_Mo_restart_33 : decode prog_8_method_27_code 33 = .ok (.iastore, 1) := by decide +kernel
theorem d_Mo_restart_34 : decode prog_8_method_27_code 34 = .ok (.iconst 1, 1) := by decide +kernel
theorem d_Mo_restart_35 : decode prog_8_method_27_code 35 = .ok (.ireturn, 1) := by decide +kernel
theorem d_Mo_held_0 : decode prog_8_method_28_code 0 = .ok (.aload_n 0, 1) := by decide +kernel
theorem d_Mo_held_1 : decode prog_8_method_28_code 1 = .ok (.iload_n 1, 1) := by decide +kernel
theorem d_Mo_held_2 : decode prog_8_method_28_code 2 = .ok (.invokevirtual 90, 3) := by decide +kernel
theorem d_Mo_held_5 : decode prog_8_method_28_code 5 = .ok (.ifCond .eq 19, 3) := by decide +kernel
theorem d_Mo_held_8 : decode prog_8_method_28_code 8 = .ok (.aload_n 0, 1) := by decide +kernel
theorem d_Mo_held_9 : decode prog_8_method_28_code 9 = .ok (.getfield 83, 3) := by decide +kernel
theorem d_Mo_held_12 : decode prog_8_method_28_code 12 = .ok (.ifCond .ne 12, 3) := by decide +kernel
theorem d_Mo_held_15 : decode prog_8_method_28_code 15 = .ok (.aload_n 0, 1) := by decide +kernel
theorem d_Mo_held_16 : decode prog_8_method_28_code 16 = .ok (.getfield 51, 3) := by decide +kernel
theorem d_Mo_held_19 : decode prog_8_method_28_code 19 = .ok (.iload_n 1, 1) := by decide +kernel
theorem d_Mo_held_20 : decode prog_8_method_28_code 20 = .ok (.iaload, 1) := by decide +kernel
theorem d_Mo_held_21 : decode prog_8_method_28_code 21 = .ok (.goto 4, 3) := by decide +kernel
theorem d_Mo_held_24 : decode prog_8_method_28_code 24 = .ok (.iconst (-1), 1) := by decide +kernel
theorem d_Mo_held_25 : decode prog_8_method_28_code 25 = .ok (.ireturn, 1) := by decide +kernel
theorem d_Mo_log_0 : decode prog_8_method_29_code 0 = .ok (.iload_n 1, 1) := by decide +kernel
theorem d_Mo_log_1 : decode prog_8_method_29_code 1 = .ok (.iconst 0, 1) := by decide +kernel
theorem d_Mo_log_2 : decode prog_8_method_29_code 2 = .ok (.aload_n 0, 1) := by decide +kernel
theorem d_Mo_log_3 : decode prog_8_method_29_code 3 = .ok (.getfield 115, 3) := by decide +kernel
theorem d_Mo_log_6 : decode prog_8_method_29_code 6 = .ok (.iconst 1, 1) := by decide +kernel
theorem d_Mo_log_7 : decode prog_8_method_29_code 7 = .ok (.isub, 1) := by decide +kernel
theorem d_Mo_log_8 : decode prog_8_method_29_code 8 = .ok (.invokestatic 79, 3) := by decide +kernel
theorem d_Mo_log_11 : decode prog_8_method_29_code 11 = .ok (.ifCond .ne 5, 3) := by decide +kernel
theorem d_Mo_log_14 : decode prog_8_method_29_code 14 = .ok (.iconst (-1), 1) := by decide +kernel
theorem d_Mo_log_15 : decode prog_8_method_29_code 15 = .ok (.ireturn, 1) := by decide +kernel
theorem d_Mo_log_16 : decode prog_8_method_29_code 16 = .ok (.iload_n 2, 1) := by decide +kernel
theorem d_Mo_log_17 : decode prog_8_method_29_code 17 = .ok (.ifCond .ne 12, 3) := by decide +kernel
theorem d_Mo_log_20 : decode prog_8_method_29_code 20 = .ok (.aload_n 0, 1) := by decide +kernel
theorem d_Mo_log_21 : decode prog_8_method_29_code 21 = .ok (.getfield 54, 3) := by decide +kernel
theorem d_Mo_log_24 : decode prog_8_method_29_code 24 = .ok (.iload_n 1, 1) := by decide +kernel
theorem d_Mo_log_25 : decode prog_8_method_29_code 25 = .ok (.iaload, 1) := by decide +kernel
theorem d_Mo_log_26 : decode prog_8_method_29_code 26 = .ok (.goto 32, 3) := by decide +kernel
theorem d_Mo_log_29 : decode prog_8_method_29_code 29 = .ok (.iload_n 2, 1) := by decide +kernel
theorem d_Mo_log_30 : decode prog_8_method_29_code 30 = .ok (.iconst 1, 1) := by decide +kernel
theorem d_Mo_log_31 : decode prog_8_method_29_code 31 = .ok (.if_icmp .ne 12, 3) := by decide +kernel
theorem d_Mo_log_34 : decode prog_8_method_29_code 34 = .ok (.aload_n 0, 1) := by decide +kernel
theorem d_Mo_log_35 : decode prog_8_method_29_code 35 = .ok (.getfield 57, 3) := by decide +kernel
theorem d_Mo_log_38 : decode prog_8_method_29_code 38 = .ok (.iload_n 1, 1) := by decide +kernel
theorem d_Mo_log_39 : decode prog_8_method_29_code 39 = .ok (.iaload, 1) := by decide +kernel
theorem d_Mo_log_40 : decode prog_8_method_29_code 40 = .ok (.goto 18, 3) := by decide +kernel
theorem d_Mo_log_43 : decode prog_8_method_29_code 43 = .ok (.iload_n 2, 1) := by decide +kernel
theorem d_Mo_log_44 : decode prog_8_method_29_code 44 = .ok (.iconst 2, 1) := by decide +kernel
theorem d_Mo_log_45 : decode prog_8_method_29_code 45 = .ok (.if_icmp .ne 12, 3) := by decide +kernel
theorem d_Mo_log_48 : decode prog_8_method_29_code 48 = .ok (.aload_n 0, 1) := by decide +kernel
theorem d_Mo_log_49 : decode prog_8_method_29_code 49 = .ok (.getfield 60, 3) := by decide +kernel
theorem d_Mo_log_52 : decode prog_8_method_29_code 52 = .ok (.iload_n 1, 1) := by decide +kernel
theorem d_Mo_log_53 : decode prog_8_method_29_code 53 = .ok (.iaload, 1) := by decide +kernel
theorem d_Mo_log_54 : decode prog_8_method_29_code 54 = .ok (.goto 4, 3) := by decide +kernel
theorem d_Mo_log_57 : decode prog_8_method_29_code 57 = .ok (.iconst (-1), 1) := by decide +kernel
theorem d_Mo_log_58 : decode prog_8_method_29_code 58 = .ok (.ireturn, 1) := by decide +kernel
theorem d_Mo_count_0 : decode prog_8_method_30_code 0 = .ok (.iload_n 1, 1) := by decide +kernel
theorem d_Mo_count_1 : decode prog_8_method_30_code 1 = .ok (.iconst 4, 1) := by decide +kernel
theorem d_Mo_count_2 : decode prog_8_method_30_code 2 = .ok (.iconst 3, 1) := by decide +kernel
theorem d_Mo_count_3 : decode prog_8_method_30_code 3 = .ok (.aload_n 0, 1) := by decide +kernel
theorem d_Mo_count_4 : decode prog_8_method_30_code 4 = .ok (.getfield 75, 3) := by decide +kernel
theorem d_Mo_count_7 : decode prog_8_method_30_code 7 = .ok (.iadd, 1) := by decide +kernel
theorem d_Mo_count_8 : decode prog_8_method_30_code 8 = .ok (.invokestatic 79, 3) := by decide +kernel
theorem d_Mo_count_11 : decode prog_8_method_30_code 11 = .ok (.ifCond .eq 12, 3) := by decide +kernel
theorem d_Mo_count_14 : decode prog_8_method_30_code 14 = .ok (.aload_n 0, 1) := by decide +kernel
theorem d_Mo_count_15 : decode prog_8_method_30_code 15 = .ok (.getfield 45, 3) := by decide +kernel
theorem d_Mo_count_18 : decode prog_8_method_30_code 18 = .ok (.iload_n 1, 1) := by decide +kernel
theorem d_Mo_count_19 : decode prog_8_method_30_code 19 = .ok (.iconst 4, 1) := by decide +kernel
theorem d_Mo_count_20 : decode prog_8_method_30_code 20 = .ok (.isub, 1) := by decide +kernel
theorem d_Mo_count_21 : decode prog_8_method_30_code 21 = .ok (.iaload, 1) := by decide +kernel
theorem d_Mo_count_22 : decode prog_8_method_30_code 22 = .ok (.ireturn, 1) := by decide +kernel
theorem d_Mo_count_23 : decode prog_8_method_30_code 23 = .ok (.iload_n 1, 1) := by decide +kernel
theorem d_Mo_count_24 : decode prog_8_method_30_code 24 = .ok (.ifCond .ne 10, 3) := by decide +kernel
theorem d_Mo_count_27 : decode prog_8_method_30_code 27 = .ok (.aload_n 0, 1) := by decide +kernel
theorem d_Mo_count_28 : decode prog_8_method_30_code 28 = .ok (.getfield 106, 3) := by decide +kernel
theorem d_Mo_count_31 : decode prog_8_method_30_code 31 = .ok (.goto 40, 3) := by decide +kernel
theorem d_Mo_count_34 : decode prog_8_method_30_code 34 = .ok (.iload_n 1, 1) := by decide +kernel
theorem d_Mo_count_35 : decode prog_8_method_30_code 35 = .ok (.iconst 1, 1) := by decide +kernel
theorem d_Mo_count_36 : decode prog_8_method_30_code 36 = .ok (.if_icmp .ne 10, 3) := by decide +kernel
theorem d_Mo_count_39 : decode prog_8_method_30_code 39 = .ok (.aload_n 0, 1) := by decide +kernel
theorem d_Mo_count_40 : decode prog_8_method_30_code 40 = .ok (.getfield 115, 3) := by decide +kernel
theorem d_Mo_count_43 : decode prog_8_method_30_code 43 = .ok (.goto 28, 3) := by decide +kernel
theorem d_Mo_count_46 : decode prog_8_method_30_code 46 = .ok (.iload_n 1, 1) := by decide +kernel
theorem d_Mo_count_47 : decode prog_8_method_30_code 47 = .ok (.iconst 2, 1) := by decide +kernel
theorem d_Mo_count_48 : decode prog_8_method_30_code 48 = .ok (.if_icmp .ne 10, 3) := by decide +kernel
theorem d_Mo_count_51 : decode prog_8_method_30_code 51 = .ok (.aload_n 0, 1) := by decide +kernel
theorem d_Mo_count_52 : decode prog_8_method_30_code 52 = .ok (.getfield 87, 3) := by decide +kernel
theorem d_Mo_count_55 : decode prog_8_method_30_code 55 = .ok (.goto 16, 3) := by decide +kernel
theorem d_Mo_count_58 : decode prog_8_method_30_code 58 = .ok (.iload_n 1, 1) := by decide +kernel
theorem d_Mo_count_59 : decode prog_8_method_30_code 59 = .ok (.iconst 3, 1) := by decide +kernel
theorem d_Mo_count_60 : decode prog_8_method_30_code 60 = .ok (.if_icmp .ne 10, 3) := by decide +kernel
theorem d_Mo_count_63 : decode prog_8_method_30_code 63 = .ok (.aload_n 0, 1) := by decide +kernel
theorem d_Mo_count_64 : decode prog_8_method_30_code 64 = .ok (.invokevirtual 142, 3) := by decide +kernel
theorem d_Mo_count_67 : decode prog_8_method_30_code 67 = .ok (.goto 4, 3) := by decide +kernel
theorem d_Mo_count_70 : decode prog_8_method_30_code 70 = .ok (.iconst (-1), 1) := by decide +kernel
theorem d_Mo_count_71 : decode prog_8_method_30_code 71 = .ok (.ireturn, 1) := by decide +kernel
theorem d_Mo_close_0 : decode prog_8_method_31_code 0 = .ok (.iconst 0, 1) := by decide +kernel
theorem d_Mo_close_1 : decode prog_8_method_31_code 1 = .ok (.istore_n 1, 1) := by decide +kernel
theorem d_Mo_close_2 : decode prog_8_method_31_code 2 = .ok (.iconst 0, 1) := by decide +kernel
theorem d_Mo_close_3 : decode prog_8_method_31_code 3 = .ok (.istore_n 2, 1) := by decide +kernel
theorem d_Mo_close_4 : decode prog_8_method_31_code 4 = .ok (.iload_n 2, 1) := by decide +kernel
theorem d_Mo_close_5 : decode prog_8_method_31_code 5 = .ok (.aload_n 0, 1) := by decide +kernel
theorem d_Mo_close_6 : decode prog_8_method_31_code 6 = .ok (.getfield 75, 3) := by decide +kernel
theorem d_Mo_close_9 : decode prog_8_method_31_code 9 = .ok (.if_icmp .ge 42, 3) := by decide +kernel
theorem d_Mo_close_12 : decode prog_8_method_31_code 12 = .ok (.aload_n 0, 1) := by decide +kernel
theorem d_Mo_close_13 : decode prog_8_method_31_code 13 = .ok (.getfield 83, 3) := by decide +kernel
theorem d_Mo_close_16 : decode prog_8_method_31_code 16 = .ok (.ifCond .ne 35, 3) := by decide +kernel
theorem d_Mo_close_19 : decode prog_8_method_31_code 19 = .ok (.iload_n 1, 1) := by decide +kernel
theorem d_Mo_close_20 : decode prog_8_method_31_code 20 = .ok (.aload_n 0, 1) := by decide +kernel
theorem d_Mo_close_21 : decode prog_8_method_31_code 21 = .ok (.iload_n 2, 1) := by decide +kernel
theorem d_Mo_close_22 : decode prog_8_method_31_code 22 = .ok (.invokevirtual 112, 3) := by decide +kernel
theorem d_Mo_close_25 : decode prog_8_method_31_code 25 = .ok (.ifCond .ne 13, 3) := by decide +kernel
theorem d_Mo_close_28 : decode prog_8_method_31_code 28 = .ok (.aload_n 0, 1) := by decide +kernel
theorem d_Mo_close_29 : decode prog_8_method_31_code 29 = .ok (.getfield 51, 3) := by decide +kernel
theorem d_Mo_close_32 : decode prog_8_method_31_code 32 = .ok (.iload_n 2, 1) := by decide +kernel
theorem d_Mo_close_33 : decode prog_8_method_31_code 33 = .ok (.iaload, 1) := by decide +kernel
theorem d_Mo_close_34 : decode prog_8_method_31_code 34 = .ok (.iconst (-1), 1) := by decide +kernel
theorem d_Mo_close_35 : decode prog_8_method_31_code 35 = .ok (.if_icmp .eq 7, 3) := by decide +kernel
theorem d_Mo_close_38 : decode prog_8_method_31_code 38 = .ok (.iconst 1, 1) := by decide +kernel
theorem d_Mo_close_39 : decode prog_8_method_31_code 39 = .ok (.goto 4, 3) := by decide +kernel
theorem d_Mo_close_42 : decode prog_8_method_31_code 42 = .ok (.iconst 0, 1) := by decide +kernel
theorem d_Mo_close_43 : decode prog_8_method_31_code 43 = .ok (.iadd, 1) := by decide +kernel
theorem d_Mo_close_44 : decode prog_8_method_31_code 44 = .ok (.istore_n 1, 1) := by decide +kernel
theorem d_Mo_close_45 : decode prog_8_method_31_code 45 = .ok (.iinc 2 1, 3) := by decide +kernel
theorem d_Mo_close_48 : decode prog_8_method_31_code 48 = .ok (.goto (-44), 3) := by decide +kernel
theorem d_Mo_close_51 : decode prog_8_method_31_code 51 = .ok (.aload_n 0, 1) := by decide +kernel
theorem d_Mo_close_52 : decode prog_8_method_31_code 52 = .ok (.getfield 83, 3) := by decide +kernel
theorem d_Mo_close_55 : decode prog_8_method_31_code 55 = .ok (.ifCond .ne 50, 3) := by decide +kernel
theorem d_Mo_close_58 : decode prog_8_method_31_code 58 = .ok (.iconst 0, 1) := by decide +kernel
theorem d_Mo_close_59 : decode prog_8_method_31_code 59 = .ok (.istore_n 2, 1) := by decide +kernel
theorem d_Mo_close_60 : decode prog_8_method_31_code 60 = .ok (.iload_n 2, 1) := by decide +kernel
theorem d_Mo_close_61 : decode prog_8_method_31_code 61 = .ok (.bipush 32, 2) := by decide +kernel
theorem d_Mo_close_63 : decode prog_8_method_31_code 63 = .ok (.if_icmp .ge 21, 3) := by decide +kernel
theorem d_Mo_close_66 : decode prog_8_method_31_code 66 = .ok (.aload_n 0, 1) := by decide +kernel
theorem d_Mo_close_67 : decode prog_8_method_31_code 67 = .ok (.getfield 7, 3) := by decide +kernel
theorem d_Mo_close_70 : decode prog_8_method_31_code 70 = .ok (.iload_n 2, 1) := by decide +kernel
theorem d_Mo_close_71 : decode prog_8_method_31_code 71 = .ok (.aload_n 0, 1) := by decide +kernel
theorem d_Mo_close_72 : decode prog_8_method_31_code 72 = .ok (.getfield 13, 3) := by decide +kernel
theorem d_Mo_close_75 : decode prog_8_method_31_code 75 = .ok (.iload_n 2, 1) := by decide +kernel
theorem d_Mo_close_76 : decode prog_8_method_31_code 76 = .ok (.laload, 1) := by decide +kernel
theorem d_Mo_close_77 : decode prog_8_method_31_code 77 = .ok (.lastore, 1) := by decide +kernel
theorem d_Mo_close_78 : decode prog_8_method_31_code 78 = .ok (.iinc 2 1, 3) := by decide +kernel
theorem d_Mo_close_81 : decode prog_8_method_31_code 81 = .ok (.goto (-21), 3) := by decide +kernel
theorem d_Mo_close_84 : decode prog_8_method_31_code 84 = .ok (.iconst 0, 1) := by decide +kernel
theorem d_Mo_close_85 : decode prog_8_method_31_code 85 = .ok (.istore_n 2, 1) := by decide +kernel
theorem d_Mo_close_86 : decode prog_8_method_31_code 86 = .ok (.iload_n 2, 1) := by decide +kernel
theorem d_Mo_close_87 : decode prog_8_method_31_code 87 = .ok (.bipush 16, 2) := by decide +kernel
theorem d_Mo_close_89 : decode prog_8_method_31_code 89 = .ok (.if_icmp .ge 16, 3) := by decide +kernel
theorem d_Mo_close_92 : decode prog_8_method_31_code 92 = .ok (.aload_n 0, 1) := by decide +kernel
theorem d_Mo_close_93 : decode prog_8_method_31_code 93 = .ok (.getfield 16, 3) := by decide +kernel
theorem d_Mo_close_96 : decode prog_8_method_31_code 96 = .ok (.iload_n 2, 1) := by decide +kernel
theorem d_Mo_close_97 : decode prog_8_method_31_code 97 = .ok (.iconst (-1), 1) := by decide +kernel
theorem d_Mo_close_98 : decode prog_8_method_31_code 98 = .ok (.iastore, 1) := by decide +kernel
theorem d_Mo_close_99 : decode prog_8_method_31_code 99 = .ok (.iinc 2 1, 3) := by decide +kernel
theorem d_Mo_close_102 : decode prog_8_method_31_code 102 = .ok (.goto (-16), 3) := by decide +kernel
theorem d_Mo_close_105 : decode prog_8_method_31_code 105 = .ok (.aload_n 0, 1) := by decide +kernel
theorem d_Mo_close_106 : decode prog_8_method_31_code 106 = .ok (.iconst 1, 1) := by decide +kernel
theorem d_Mo_close_107 : decode prog_8_method_31_code 107 = .ok (.putfield 83, 3) := by decide +kernel
theorem d_Mo_close_110 : decode prog_8_method_31_code 110 = .ok (.iload_n 1, 1) := by decide +kernel
theorem d_Mo_close_111 : decode prog_8_method_31_code 111 = .ok (.ireturn, 1) := by decide +kernel
