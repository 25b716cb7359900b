theorem d_Mo_init_0 : decode b_Mo_init 0 = .ok (.aload_n 0, 1) := by decide +kernel
theorem d_Mo_init_1 : decode b_Mo_init 1 = .ok (.invokespecial 1, 3) := by decide +kernel
theorem d_Mo_init_4 : decode b_Mo_init 4 = .ok (.aload_n 0, 1) := by decide +kernel
theorem d_Mo_init_5 : decode b_Mo_init 5 = .ok (.bipush 6, 2) := by decide +kernel
theorem d_Mo_init_7 : decode b_Mo_init 7 = .ok (.newarray .int, 2) := by decide +kernel
theorem d_Mo_init_9 : decode b_Mo_init 9 = .ok (.putfield 7, 3) := by decide +kernel
theorem d_Mo_init_12 : decode b_Mo_init 12 = .ok (.aload_n 0, 1) := by decide +kernel
theorem d_Mo_init_13 : decode b_Mo_init 13 = .ok (.bipush 6, 2) := by decide +kernel
theorem d_Mo_init_15 : decode b_Mo_init 15 = .ok (.newarray .int, 2) := by decide +kernel
theorem d_Mo_init_17 : decode b_Mo_init 17 = .ok (.putfield 13, 3) := by decide +kernel
theorem d_Mo_init_20 : decode b_Mo_init 20 = .ok (.aload_n 0, 1) := by decide +kernel
theorem d_Mo_init_21 : decode b_Mo_init 21 = .ok (.bipush 6, 2) := by decide +kernel
theorem d_Mo_init_23 : decode b_Mo_init 23 = .ok (.newarray .int, 2) := by decide +kernel
theorem d_Mo_init_25 : decode b_Mo_init 25 = .ok (.putfield 16, 3) := by decide +kernel
theorem d_Mo_init_28 : decode b_Mo_init 28 = .ok (.aload_n 0, 1) := by decide +kernel
theorem d_Mo_init_29 : decode b_Mo_init 29 = .ok (.bipush 10, 2) := by decide +kernel
theorem d_Mo_init_31 : decode b_Mo_init 31 = .ok (.newarray .int, 2) := by decide +kernel
theorem d_Mo_init_33 : decode b_Mo_init 33 = .ok (.putfield 19, 3) := by decide +kernel
theorem d_Mo_init_36 : decode b_Mo_init 36 = .ok (.aload_n 0, 1) := by decide +kernel
theorem d_Mo_init_37 : decode b_Mo_init 37 = .ok (.bipush 10, 2) := by decide +kernel
theorem d_Mo_init_39 : decode b_Mo_init 39 = .ok (.newarray .int, 2) := by decide +kernel
theorem d_Mo_init_41 : decode b_Mo_init 41 = .ok (.putfield 22, 3) := by decide +kernel
theorem d_Mo_init_44 : decode b_Mo_init 44 = .ok (.aload_n 0, 1) := by decide +kernel
theorem d_Mo_init_45 : decode b_Mo_init 45 = .ok (.bipush 10, 2) := by decide +kernel
theorem d_Mo_init_47 : decode b_Mo_init 47 = .ok (.newarray .int, 2) := by decide +kernel
theorem d_Mo_init_49 : decode b_Mo_init 49 = .ok (.putfield 25, 3) := by decide +kernel
theorem d_Mo_init_52 : decode b_Mo_init 52 = .ok (.aload_n 0, 1) := by decide +kernel
theorem d_Mo_init_53 : decode b_Mo_init 53 = .ok (.bipush 10, 2) := by decide +kernel
theorem d_Mo_init_55 : decode b_Mo_init 55 = .ok (.newarray .int, 2) := by decide +kernel
theorem d_Mo_init_57 : decode b_Mo_init 57 = .ok (.putfield 28, 3) := by decide +kernel
theorem d_Mo_init_60 : decode b_Mo_init 60 = .ok (.aload_n 0, 1) := by decide +kernel
theorem d_Mo_init_61 : decode b_Mo_init 61 = .ok (.sipush 200, 3) := by decide +kernel
theorem d_Mo_init_64 : decode b_Mo_init 64 = .ok (.newarray .int, 2) := by decide +kernel
theorem d_Mo_init_66 : decode b_Mo_init 66 = .ok (.putfield 31, 3) := by decide +kernel
theorem d_Mo_init_69 : decode b_Mo_init 69 = .ok (.aload_n 0, 1) := by decide +kernel
theorem d_Mo_init_70 : decode b_Mo_init 70 = .ok (.sipush 200, 3) := by decide +kernel
theorem d_Mo_init_73 : decode b_Mo_init 73 = .ok (.newarray .int, 2) := by decide +kernel
theorem d_Mo_init_75 : decode b_Mo_init 75 = .ok (.putfield 34, 3) := by decide +kernel
theorem d_Mo_init_78 : decode b_Mo_init 78 = .ok (.aload_n 0, 1) := by decide +kernel
theorem d_Mo_init_79 : decode b_Mo_init 79 = .ok (.bipush 10, 2) := by decide +kernel
theorem d_Mo_init_81 : decode b_Mo_init 81 = .ok (.newarray .int, 2) := by decide +kernel
theorem d_Mo_init_83 : decode b_Mo_init 83 = .ok (.putfield 37, 3) := by decide +kernel
theorem d_Mo_init_86 : decode b_Mo_init 86 = .ok (.aload_n 0, 1) := by decide +kernel
theorem d_Mo_init_87 : decode b_Mo_init 87 = .ok (.bipush 30, 2) := by decide +kernel
theorem d_Mo_init_89 : decode b_Mo_init 89 = .ok (.newarray .int, 2) := by decide +kernel
theorem d_Mo_init_91 : decode b_Mo_init 91 = .ok (.putfield 40, 3) := by decide +kernel
theorem d_Mo_init_94 : decode b_Mo_init 94 = .ok (.aload_n 0, 1) := by decide +kernel
theorem d_Mo_init_95 : decode b_Mo_init 95 = .ok (.bipush 30, 2) := by decide +kernel
theorem d_Mo_init_97 : decode b_Mo_init 97 = .ok (.newarray .int, 2) := by decide +kernel
theorem d_Mo_init_99 : decode b_Mo_init 99 = .ok (.putfield 43, 3) := by decide +kernel
theorem d_Mo_init_102 : decode b_Mo_init 102 = .ok (.aload_n 0, 1) := by decide +kernel
theorem d_Mo_init_103 : decode b_Mo_init 103 = .ok (.bipush 30, 2) := by decide +kernel
theorem d_Mo_init_105 : decode b_Mo_init 105 = .ok (.newarray .int, 2) := by decide +kernel
theorem d_Mo_init_107 : decode b_Mo_init 107 = .ok (.putfield 46, 3) := by decide +kernel
theorem d_Mo_init_110 : decode b_Mo_init 110 = .ok (.aload_n 0, 1) := by decide +kernel
theorem d_Mo_init_111 : decode b_Mo_init 111 = .ok (.sipush 200, 3) := by decide +kernel
theorem d_Mo_init_114 : decode b_Mo_init 114 = .ok (.newarray .boolean, 2) := by decide +kernel
theorem d_Mo_init_116 : decode b_Mo_init 116 = .ok (.putfield 49, 3) := by decide +kernel
theorem d_Mo_init_119 : decode b_Mo_init 119 = .ok (.aload_n 0, 1) := by decide +kernel
theorem d_Mo_init_120 : decode b_Mo_init 120 = .ok (.sipush 200, 3) := by decide +kernel
theorem d_Mo_init_123 : decode b_Mo_init 123 = .ok (.newarray .int, 2) := by decide +kernel
theorem d_Mo_init_125 : decode b_Mo_init 125 = .ok (.putfield 53, 3) := by decide +kernel
theorem d_Mo_init_128 : decode b_Mo_init 128 = .ok (.aload_n 0, 1) := by decide +kernel
theorem d_Mo_init_129 : decode b_Mo_init 129 = .ok (.sipush 2000, 3) := by decide +kernel
theorem d_Mo_init_132 : decode b_Mo_init 132 = .ok (.newarray .int, 2) := by decide +kernel
theorem d_Mo_init_134 : decode b_Mo_init 134 = .ok (.putfield 56, 3) := by decide +kernel
theorem d_Mo_init_137 : decode b_Mo_init 137 = .ok (.aload_n 0, 1) := by decide +kernel
theorem d_Mo_init_138 : decode b_Mo_init 138 = .ok (.bipush 10, 2) := by decide +kernel
theorem d_Mo_init_140 : decode b_Mo_init 140 = .ok (.newarray .int, 2) := by decide +kernel
theorem d_Mo_init_142 : decode b_Mo_init 142 = .ok (.putfield 59, 3) := by decide +kernel
theorem d_Mo_init_145 : decode b_Mo_init 145 = .ok (.aload_n 0, 1) := by decide +kernel
theorem d_Mo_init_146 : decode b_Mo_init 146 = .ok (.bipush 10, 2) := by decide +kernel
theorem d_Mo_init_148 : decode b_Mo_init 148 = .ok (.newarray .boolean, 2) := by decide +kernel
theorem d_Mo_init_150 : decode b_Mo_init 150 = .ok (.putfield 62, 3) := by decide +kernel
theorem d_Mo_init_153 : decode b_Mo_init 153 = .ok (.aload_n 0, 1) := by decide +kernel
theorem d_Mo_init_154 : decode b_Mo_init 154 = .ok (.bipush 6, 2) := by decide +kernel
theorem d_Mo_init_156 : decode b_Mo_init 156 = .ok (.newarray .boolean, 2) := by decide +kernel
theorem d_Mo_init_158 : decode b_Mo_init 158 = .ok (.putfield 65, 3) := by decide +kernel
theorem d_Mo_init_161 : decode b_Mo_init 161 = .ok (.aload_n 0, 1) := by decide +kernel
theorem d_Mo_init_162 : decode b_Mo_init 162 = .ok (.bipush 6, 2) := by decide +kernel
theorem d_Mo_init_164 : decode b_Mo_init 164 = .ok (.newarray .boolean, 2) := by decide +kernel
theorem d_Mo_init_166 : decode b_Mo_init 166 = .ok (.putfield 68, 3) := by decide +kernel
theorem d_Mo_init_169 : decode b_Mo_init 169 = .ok (.aload_n 0, 1) := by decide +kernel
theorem d_Mo_init_170 : decode b_Mo_init 170 = .ok (.bipush 10, 2) := by decide +kernel
theorem d_Mo_init_172 : decode b_Mo_init 172 = .ok (.newarray .int, 2) := by decide +kernel
theorem d_Mo_init_174 : decode b_Mo_init 174 = .ok (.putfield 71, 3) := by decide +kernel
theorem d_Mo_init_177 : decode b_Mo_init 177 = .ok (.aload_n 0, 1) := by decide +kernel
theorem d_Mo_init_178 : decode b_Mo_init 178 = .ok (.bipush 10, 2) := by decide +kernel
theorem d_Mo_init_180 : decode b_Mo_init 180 = .ok (.newarray .int, 2) := by decide +kernel
theorem d_Mo_init_182 : decode b_Mo_init 182 = .ok (.putfield 74, 3) := by decide +kernel
theorem d_Mo_init_185 : decode b_Mo_init 185 = .ok (.aload_n 0, 1) := by decide +kernel
theorem d_Mo_init_186 : decode b_Mo_init 186 = .ok (.bipush 10, 2) := by decide +kernel
theorem d_Mo_init_188 : decode b_Mo_init 188 = .ok (.newarray .int, 2) := by decide +kernel
theorem d_Mo_init_190 : decode b_Mo_init 190 = .ok (.putfield 77, 3) := by decide +kernel
theorem d_Mo_init_193 : decode b_Mo_init 193 = .ok (.aload_n 0, 1) := by decide +kernel
theorem d_Mo_init_194 : decode b_Mo_init 194 = .ok (.bipush 10, 2) := by decide +kernel
theorem d_Mo_init_196 : decode b_Mo_init 196 = .ok (.newarray .boolean, 2) := by decide +kernel
theorem d_Mo_init_198 : decode b_Mo_init 198 = .ok (.putfield 80, 3) := by decide +kernel
theorem d_Mo_init_201 : decode b_Mo_init 201 = .ok (.aload_n 0, 1) := by decide +kernel
theorem d_Mo_init_202 : decode b_Mo_init 202 = .ok (.bipush 10, 2) := by decide +kernel
theorem d_Mo_init_204 : decode b_Mo_init 204 = .ok (.newarray .boolean, 2) := by decide +kernel
theorem d_Mo_init_206 : decode b_Mo_init 206 = .ok (.putfield 83, 3) := by decide +kernel
theorem d_Mo_init_209 : decode b_Mo_init 209 = .ok (.aload_n 0, 1) := by decide +kernel
theorem d_Mo_init_210 : decode b_Mo_init 210 = .ok (.bipush 40, 2) := by decide +kernel
theorem d_Mo_init_212 : decode b_Mo_init 212 = .ok (.newarray .int, 2) := by decide +kernel
theorem d_Mo_init_214 : decode b_Mo_init 214 = .ok (.putfield 86, 3) := by decide +kernel
theorem d_Mo_init_217 : decode b_Mo_init 217 = .ok (.aload_n 0, 1) := by decide +kernel
theorem d_Mo_init_218 : decode b_Mo_init 218 = .ok (.bipush 60, 2) := by decide +kernel
theorem d_Mo_init_220 : decode b_Mo_init 220 = .ok (.newarray .int, 2) := by decide +kernel
theorem d_Mo_init_222 : decode b_Mo_init 222 = .ok (.putfield 89, 3) := by decide +kernel
theorem d_Mo_init_225 : decode b_Mo_init 225 = .ok (.aload_n 0, 1) := by decide +kernel
theorem d_Mo_init_226 : decode b_Mo_init 226 = .ok (.bipush 16, 2) := by decide +kernel
theorem d_Mo_init_228 : decode b_Mo_init 228 = .ok (.newarray .int, 2) := by decide +kernel
theorem d_Mo_init_230 : decode b_Mo_init 230 = .ok (.putfield 92, 3) := by decide +kernel
theorem d_Mo_init_233 : decode b_Mo_init 233 = .ok (.aload_n 0, 1) := by decide +kernel
theorem d_Mo_init_234 : decode b_Mo_init 234 = .ok (.bipush 96, 2) := by decide +kernel
theorem d_Mo_init_236 : decode b_Mo_init 236 = .ok (.newarray .int, 2) := by decide +kernel
theorem d_Mo_init_238 : decode b_Mo_init 238 = .ok (.putfield 95, 3) := by decide +kernel
theorem d_Mo_init_241 : decode b_Mo_init 241 = .ok (.aload_n 0, 1) := by decide +kernel
theorem d_Mo_init_242 : decode b_Mo_init 242 = .ok (.bipush 6, 2) := by decide +kernel
theorem d_Mo_init_244 : decode b_Mo_init 244 = .ok (.newarray .int, 2) := by decide +kernel
theorem d_Mo_init_246 : decode b_Mo_init 246 = .ok (.putfield 98, 3) := by decide +kernel
theorem d_Mo_init_249 : decode b_Mo_init 249 = .ok (.aload_n 0, 1) := by decide +kernel
theorem d_Mo_init_250 : decode b_Mo_init 250 = .ok (.bipush 6, 2) := by decide +kernel
theorem d_Mo_init_252 : decode b_Mo_init 252 = .ok (.newarray .int, 2) := by decide +kernel
theorem d_Mo_init_254 : decode b_Mo_init 254 = .ok (.putfield 101, 3) := by decide +kernel
theorem d_Mo_init_257 : decode b_Mo_init 257 = .ok (.aload_n 0, 1) := by decide +kernel
theorem d_Mo_init_258 : decode b_Mo_init 258 = .ok (.bipush 16, 2) := by decide +kernel
theorem d_Mo_init_260 : decode b_Mo_init 260 = .ok (.newarray .int, 2) := by decide +kernel
theorem d_Mo_init_262 : decode b_Mo_init 262 = .ok (.putfield 104, 3) := by decide +kernel
theorem d_Mo_init_265 : decode b_Mo_init 265 = .ok (.return_, 1) := by decide +kernel
theorem d_Mo_type_0 : decode b_Mo_type 0 = .ok (.aload_n 0, 1) := by decide +kernel
theorem d_Mo_type_1 : decode b_Mo_type 1 = .ok (.getfield 114, 3) := by decide +kernel
theorem d_Mo_type_4 : decode b_Mo_type 4 = .ok (.bipush 6, 2) := by decide +kernel
theorem d_Mo_type_6 : decode b_Mo_type 6 = .ok (.if_icmp .eq 25, 3) := by decide +kernel
theorem d_Mo_type_9 : decode b_Mo_type 9 = .ok (.iload_n 1, 1) := by decide +kernel
theorem d_Mo_type_10 : decode b_Mo_type 10 = .ok (.iconst (-1), 1) := by decide +kernel
theorem d_Mo_type_11 : decode b_Mo_type 11 = .ok (.if_icmp .lt 20, 3) := by decide +kernel
theorem d_Mo_type_14 : decode b_Mo_type 14 = .ok (.iload_n 1, 1) := by decide +kernel
theorem d_Mo_type_15 : decode b_Mo_type 15 = .ok (.aload_n 0, 1) := by decide +kernel
theorem d_Mo_type_16 : decode b_Mo_type 16 = .ok (.getfield 114, 3) := by decide +kernel
theorem d_Mo_type_19 : decode b_Mo_type 19 = .ok (.if_icmp .ge 12, 3) := by decide +kernel
theorem d_Mo_type_22 : decode b_Mo_type 22 = .ok (.iload_n 2, 1) := by decide +kernel
theorem d_Mo_type_23 : decode b_Mo_type 23 = .ok (.bipush 6, 2) := by decide +kernel
theorem d_Mo_type_25 : decode b_Mo_type 25 = .ok (.invokestatic 118, 3) := by decide +kernel
theorem d_Mo_type_28 : decode b_Mo_type 28 = .ok (.ifCond .ne 5, 3) := by decide +kernel
theorem d_Mo_type_31 : decode b_Mo_type 31 = .ok (.iconst (-1), 1) := by decide +kernel
theorem d_Mo_type_32 : decode b_Mo_type 32 = .ok (.ireturn, 1) := by decide +kernel
theorem d_Mo_type_33 : decode b_Mo_type 33 = .ok (.iload_n 1, 1) := by decide +kernel
theorem d_Mo_type_34 : decode b_Mo_type 34 = .ok (.ifCond .ge 7, 3) := by decide +kernel
theorem d_Mo_type_37 : decode b_Mo_type 37 = .ok (.iconst 0, 1) := by decide +kernel
theorem d_Mo_type_38 : decode b_Mo_type 38 = .ok (.goto 8, 3) := by decide +kernel
theorem d_Mo_type_41 : decode b_Mo_type 41 = .ok (.aload_n 0, 1) := by decide +kernel
theorem d_Mo_type_42 : decode b_Mo_type 42 = .ok (.iload_n 1, 1) := by decide +kernel
theorem d_Mo_type_43 : decode b_Mo_type 43 = .ok (.invokevirtual 122, 3) := by decide +kernel
theorem d_Mo_type_46 : decode b_Mo_type 46 = .ok (.istore_n 3, 1) := by decide +kernel
theorem d_Mo_type_47 : decode b_Mo_type 47 = .ok (.iload_n 3, 1) := by decide +kernel
theorem d_Mo_type_48 : decode b_Mo_type 48 = .ok (.iload_n 2, 1) := by decide +kernel
theorem d_Mo_type_49 : decode b_Mo_type 49 = .ok (.iadd, 1) := by decide +kernel
theorem d_Mo_type_50 : decode b_Mo_type 50 = .ok (.bipush 6, 2) := by decide +kernel
theorem d_Mo_type_52 : decode b_Mo_type 52 = .ok (.if_icmp .le 5, 3) := by decide +kernel
theorem d_Mo_type_55 : decode b_Mo_type 55 = .ok (.iconst (-1), 1) := by decide +kernel
theorem d_Mo_type_56 : decode b_Mo_type 56 = .ok (.ireturn, 1) := by decide +kernel
theorem d_Mo_type_57 : decode b_Mo_type 57 = .ok (.aload_n 0, 1) := by decide +kernel
theorem d_Mo_type_58 : decode b_Mo_type 58 = .ok (.getfield 7, 3) := by decide +kernel
theorem d_Mo_type_61 : decode b_Mo_type 61 = .ok (.aload_n 0, 1) := by decide +kernel
theorem d_Mo_type_62 : decode b_Mo_type 62 = .ok (.getfield 114, 3) := by decide +kernel
theorem d_Mo_type_65 : decode b_Mo_type 65 = .ok (.iload_n 1, 1) := by decide +kernel
theorem d_Mo_type_66 : decode b_Mo_type 66 = .ok (.iastore, 1) := by decide +kernel
theorem d_Mo_type_67 : decode b_Mo_type 67 = .ok (.aload_n 0, 1) := by decide +kernel
theorem d_Mo_type_68 : decode b_Mo_type 68 = .ok (.getfield 13, 3) := by decide +kernel
theorem d_Mo_type_71 : decode b_Mo_type 71 = .ok (.aload_n 0, 1) := by decide +kernel
theorem d_Mo_type_72 : decode b_Mo_type 72 = .ok (.getfield 114, 3) := by decide +kernel
theorem d_Mo_type_75 : decode b_Mo_type 75 = .ok (.iload_n 2, 1) := by decide +kernel
theorem d_Mo_type_76 : decode b_Mo_type 76 = .ok (.iastore, 1) := by decide +kernel
theorem d_Mo_type_77 : decode b_Mo_type 77 = .ok (.aload_n 0, 1) := by decide +kernel
theorem d_Mo_type_78 : decode b_Mo_type 78 = .ok (.getfield 16, 3) := by decide +kernel
theorem d_Mo_type_81 : decode b_Mo_type 81 = .ok (.aload_n 0, 1) := by decide +kernel
theorem d_Mo_type_82 : decode b_Mo_type 82 = .ok (.getfield 114, 3) := by decide +kernel
theorem d_Mo_type_85 : decode b_Mo_type 85 = .ok (.iconst (-1), 1) := by decide +kernel
theorem d_Mo_type_86 : decode b_Mo_type 86 = .ok (.iastore, 1) := by decide +kernel
theorem d_Mo_type_87 : decode b_Mo_type 87 = .ok (.aload_n 0, 1) := by decide +kernel
theorem d_Mo_type_88 : decode b_Mo_type 88 = .ok (.dup, 1) := by decide +kernel
theorem d_Mo_type_89 : decode b_Mo_type 89 = .ok (.getfield 114, 3) := by decide +kernel
theorem d_Mo_type_92 : decode b_Mo_type 92 = .ok (.iconst 1, 1) := by decide +kernel
theorem d_Mo_type_93 : decode b_Mo_type 93 = .ok (.iadd, 1) := by decide +kernel
theorem d_Mo_type_94 : decode b_Mo_type 94 = .ok (.putfield 114, 3) := by decide +kernel
theorem d_Mo_type_97 : decode b_Mo_type 97 = .ok (.aload_n 0, 1) := by decide +kernel
theorem d_Mo_type_98 : decode b_Mo_type 98 = .ok (.invokevirtual 126, 3) := by decide +kernel
theorem d_Mo_type_101 : decode b_Mo_type 101 = .ok (.aload_n 0, 1) := by decide +kernel
theorem d_Mo_type_102 : decode b_Mo_type 102 = .ok (.getfield 114, 3) := by decide +kernel
theorem d_Mo_type_105 : decode b_Mo_type 105 = .ok (.iconst 1, 1) := by decide +kernel
theorem d_Mo_type_106 : decode b_Mo_type 106 = .ok (.isub, 1) := by decide +kernel
theorem d_Mo_type_107 : decode b_Mo_type 107 = .ok (.ireturn, 1) := by decide +kernel
theorem d_Mo_within_0 : decode b_Mo_within 0 = .ok (.iload_n 0, 1) := by decide +kernel
theorem d_Mo_within_1 : decode b_Mo_within 1 = .ok (.ifCond .lt 12, 3) := by decide +kernel
theorem d_Mo_within_4 : decode b_Mo_within 4 = .ok (.iload_n 0, 1) := by decide +kernel
theorem d_Mo_within_5 : decode b_Mo_within 5 = .ok (.iload_n 1, 1) := by decide +kernel
theorem d_Mo_within_6 : decode b_Mo_within 6 = .ok (.if_icmp .gt 7, 3) := by decide +kernel
theorem d_Mo_within_9 : decode b_Mo_within 9 = .ok (.iconst 1, 1) := by decide +kernel
theorem d_Mo_within_10 : decode b_Mo_within 10 = .ok (.goto 4, 3) := by decide +kernel
theorem d_Mo_within_13 : decode b_Mo_within 13 = .ok (.iconst 0, 1) := by decide +kernel
theorem d_Mo_within_14 : decode b_Mo_within 14 = .ok (.ireturn, 1) := by decide +kernel
theorem d_Mo_width_0 : decode b_Mo_width 0 = .ok (.iconst 0, 1) := by decide +kernel
theorem d_Mo_width_1 : decode b_Mo_width 1 = .ok (.istore_n 2, 1) := by decide +kernel
theorem d_Mo_width_2 : decode b_Mo_width 2 = .ok (.iload_n 1, 1) := by decide +kernel
theorem d_Mo_width_3 : decode b_Mo_width 3 = .ok (.istore_n 3, 1) := by decide +kernel
theorem d_Mo_width_4 : decode b_Mo_width 4 = .ok (.iload_n 3, 1) := by decide +kernel
theorem d_Mo_width_5 : decode b_Mo_width 5 = .ok (.ifCond .lt 22, 3) := by decide +kernel
theorem d_Mo_width_8 : decode b_Mo_width 8 = .ok (.iload_n 2, 1) := by decide +kernel
theorem d_Mo_width_9 : decode b_Mo_width 9 = .ok (.aload_n 0, 1) := by decide +kernel
theorem d_Mo_width_10 : decode b_Mo_width 10 = .ok (.getfield 13, 3) := by decide +kernel
theorem d_Mo_width_13 : decode b_Mo_width 13 = .ok (.iload_n 3, 1) := by decide +kernel
theorem d_Mo_width_14 : decode b_Mo_width 14 = .ok (.iaload, 1) := by decide +kernel
theorem d_Mo_width_15 : decode b_Mo_width 15 = .ok (.iadd, 1) := by decide +kernel
theorem d_Mo_width_16 : decode b_Mo_width 16 = .ok (.istore_n 2, 1) := by decide +kernel
theorem d_Mo_width_17 : decode b_Mo_width 17 = .ok (.aload_n 0, 1) := by decide +kernel
theorem d_Mo_width_18 : decode b_Mo_width 18 = .ok (.getfield 7, 3) := by decide +kernel
theorem d_Mo_width_21 : decode b_Mo_width 21 = .ok (.iload_n 3, 1) := by decide +kernel
theorem d_Mo_width_22 : decode b_Mo_width 22 = .ok (.iaload, 1) := by decide +kernel
theorem d_Mo_width_23 : decode b_Mo_width 23 = .ok (.istore_n 3, 1) := by decide +kernel
theorem d_Mo_width_24 : decode b_Mo_width 24 = .ok (.goto (-20), 3) := by decide +kernel
theorem d_Mo_width_27 : decode b_Mo_width 27 = .ok (.iload_n 2, 1) := by decide +kernel
theorem d_Mo_width_28 : decode b_Mo_width 28 = .ok (.ireturn, 1) := by decide +kernel
theorem d_Mo_changed_0 : decode b_Mo_changed 0 = .ok (.aload_n 0, 1) := by decide +kernel
theorem d_Mo_changed_1 : decode b_Mo_changed 1 = .ok (.iconst 0, 1) := by decide +kernel
theorem d_Mo_changed_2 : decode b_Mo_changed 2 = .ok (.putfield 107, 3) := by decide +kernel
theorem d_Mo_changed_5 : decode b_Mo_changed 5 = .ok (.aload_n 0, 1) := by decide +kernel
theorem d_Mo_changed_6 : decode b_Mo_changed 6 = .ok (.iconst 0, 1) := by decide +kernel
theorem d_Mo_changed_7 : decode b_Mo_changed 7 = .ok (.putfield 111, 3) := by decide +kernel
theorem d_Mo_changed_10 : decode b_Mo_changed 10 = .ok (.return_, 1) := by decide +kernel
theorem d_Mo_method_0 : decode b_Mo_method 0 = .ok (.aload_n 0, 1) := by decide +kernel
theorem d_Mo_method_1 : decode b_Mo_method 1 = .ok (.getfield 129, 3) := by decide +kernel
theorem d_Mo_method_4 : decode b_Mo_method 4 = .ok (.bipush 10, 2) := by decide +kernel
theorem d_Mo_method_6 : decode b_Mo_method 6 = .ok (.if_icmp .eq 26, 3) := by decide +kernel
theorem d_Mo_method_9 : decode b_Mo_method 9 = .ok (.iload_n 1, 1) := by decide +kernel
theorem d_Mo_method_10 : decode b_Mo_method 10 = .ok (.aload_n 0, 1) := by decide +kernel
theorem d_Mo_method_11 : decode b_Mo_method 11 = .ok (.getfield 114, 3) := by decide +kernel
theorem d_Mo_method_14 : decode b_Mo_method 14 = .ok (.iconst 1, 1) := by decide +kernel
theorem d_Mo_method_15 : decode b_Mo_method 15 = .ok (.isub, 1) := by decide +kernel
theorem d_Mo_method_16 : decode b_Mo_method 16 = .ok (.invokestatic 118, 3) := by decide +kernel
theorem d_Mo_method_19 : decode b_Mo_method 19 = .ok (.ifCond .eq 13, 3) := by decide +kernel
theorem d_Mo_method_22 : decode b_Mo_method 22 = .ok (.iload_n 2, 1) := by decide +kernel
theorem d_Mo_method_23 : decode b_Mo_method 23 = .ok (.iconst (-1), 1) := by decide +kernel
theorem d_Mo_method_24 : decode b_Mo_method 24 = .ok (.if_icmp .lt 8, 3) := by decide +kernel
theorem d_Mo_method_27 : decode b_Mo_method 27 = .ok (.iload_n 2, 1) := by decide +kernel
theorem d_Mo_method_28 : decode b_Mo_method 28 = .ok (.iconst 3, 1) := by decide +kernel
theorem d_Mo_method_29 : decode b_Mo_method 29 = .ok (.if_icmp .le 5, 3) := by decide +kernel
theorem d_Mo_method_32 : decode b_Mo_method 32 = .ok (.iconst (-1), 1) := by decide +kernel
theorem d_Mo_method_33 : decode b_Mo_method 33 = .ok (.ireturn, 1) := by decide +kernel
theorem d_Mo_method_34 : decode b_Mo_method 34 = .ok (.iload_n 2, 1) := by decide +kernel
theorem d_Mo_method_35 : decode b_Mo_method 35 = .ok (.iconst (-1), 1) := by decide +kernel
theorem d_Mo_method_36 : decode b_Mo_method 36 = .ok (.if_icmp .ne 14, 3) := by decide +kernel
theorem d_Mo_method_39 : decode b_Mo_method 39 = .ok (.iload_n 3, 1) := by decide +kernel
theorem d_Mo_method_40 : decode b_Mo_method 40 = .ok (.iconst 2, 1) := by decide +kernel
theorem d_Mo_method_41 : decode b_Mo_method 41 = .ok (.invokestatic 118, 3) := by decide +kernel
theorem d_Mo_method_44 : decode b_Mo_method 44 = .ok (.ifCond .ne 17, 3) := by decide +kernel
theorem d_Mo_method_47 : decode b_Mo_method 47 = .ok (.goto 12, 3) := by decide +kernel
theorem d_Mo_method_50 : decode b_Mo_method 50 = .ok (.aload_n 0, 1) := by decide +kernel
theorem d_Mo_method_51 : decode b_Mo_method 51 = .ok (.iload_n 1, 1) := by decide +kernel
theorem d_Mo_method_52 : decode b_Mo_method 52 = .ok (.iload_n 2, 1) := by decide +kernel
theorem d_Mo_method_53 : decode b_Mo_method 53 = .ok (.invokevirtual 132, 3) := by decide +kernel
theorem d_Mo_method_56 : decode b_Mo_method 56 = .ok (.ifCond .lt 5, 3) := by decide +kernel
theorem d_Mo_method_59 : decode b_Mo_method 59 = .ok (.iconst (-1), 1) := by decide +kernel
theorem d_Mo_method_60 : decode b_Mo_method 60 = .ok (.ireturn, 1) := by decide +kernel
theorem d_Mo_method_61 : decode b_Mo_method 61 = .ok (.aload_n 0, 1) := by decide +kernel
theorem d_Mo_method_62 : decode b_Mo_method 62 = .ok (.getfield 19, 3) := by decide +kernel
theorem d_Mo_method_65 : decode b_Mo_method 65 = .ok (.aload_n 0, 1) := by decide +kernel
theorem d_Mo_method_66 : decode b_Mo_method 66 = .ok (.getfield 129, 3) := by decide +kernel
theorem d_Mo_method_69 : decode b_Mo_method 69 = .ok (.iload_n 1, 1) := by decide +kernel
theorem d_Mo_method_70 : decode b_Mo_method 70 = .ok (.iastore, 1) := by decide +kernel
theorem d_Mo_method_71 : decode b_Mo_method 71 = .ok (.aload_n 0, 1) := by decide +kernel
theorem d_Mo_method_72 : decode b_Mo_method 72 = .ok (.getfield 22, 3) := by decide +kernel
theorem d_Mo_method_75 : decode b_Mo_method 75 = .ok (.aload_n 0, 1) := by decide +kernel
theorem d_Mo_method_76 : decode b_Mo_method 76 = .ok (.getfield 129, 3) := by decide +kernel
theorem d_Mo_method_79 : decode b_Mo_method 79 = .ok (.iload_n 2, 1) := by decide +kernel
theorem d_Mo_method_80 : decode b_Mo_method 80 = .ok (.iastore, 1) := by decide +kernel
theorem d_Mo_method_81 : decode b_Mo_method 81 = .ok (.aload_n 0, 1) := by decide +kernel
theorem d_Mo_method_82 : decode b_Mo_method 82 = .ok (.getfield 25, 3) := by decide +kernel
theorem d_Mo_method_85 : decode b_Mo_method 85 = .ok (.aload_n 0, 1) := by decide +kernel
theorem d_Mo_method_86 : decode b_Mo_method 86 = .ok (.getfield 129, 3) := by decide +kernel
theorem d_Mo_method_89 : decode b_Mo_method 89 = .ok (.iload_n 2, 1) := by decide +kernel
theorem d_Mo_method_90 : decode b_Mo_method 90 = .ok (.iconst (-1), 1) := by decide +kernel
theorem d_Mo_method_91 : decode b_Mo_method 91 = .ok (.if_icmp .ne 7, 3) := by decide +kernel
theorem d_Mo_method_94 : decode b_Mo_method 94 = .ok (.iload_n 3, 1) := by decide +kernel
theorem d_Mo_method_95 : decode b_Mo_method 95 = .ok (.goto 4, 3) := by decide +kernel
theorem d_Mo_method_98 : decode b_Mo_method 98 = .ok (.iconst 2, 1) := by decide +kernel
theorem d_Mo_method_99 : decode b_Mo_method 99 = .ok (.iastore, 1) := by decide +kernel
theorem d_Mo_method_100 : decode b_Mo_method 100 = .ok (.aload_n 0, 1) := by decide +kernel
theorem d_Mo_method_101 : decode b_Mo_method 101 = .ok (.getfield 28, 3) := by decide +kernel
theorem d_Mo_method_104 : decode b_Mo_method 104 = .ok (.aload_n 0, 1) := by decide +kernel
theorem d_Mo_method_105 : decode b_Mo_method 105 = .ok (.getfield 129, 3) := by decide +kernel
theorem d_Mo_method_108 : decode b_Mo_method 108 = .ok (.iconst 0, 1) := by decide +kernel
theorem d_Mo_method_109 : decode b_Mo_method 109 = .ok (.iastore, 1) := by decide +kernel
theorem d_Mo_method_110 : decode b_Mo_method 110 = .ok (.aload_n 0, 1) := by decide +kernel
theorem d_Mo_method_111 : decode b_Mo_method 111 = .ok (.getfield 37, 3) := by decide +kernel
theorem d_Mo_method_114 : decode b_Mo_method 114 = .ok (.aload_n 0, 1) := by decide +kernel
theorem d_Mo_method_115 : decode b_Mo_method 115 = .ok (.getfield 129, 3) := by decide +kernel
theorem d_Mo_method_118 : decode b_Mo_method 118 = .ok (.iconst 0, 1) := by decide +kernel
theorem d_Mo_method_119 : decode b_Mo_method 119 = .ok (.iastore, 1) := by decide +kernel
theorem d_Mo_method_120 : decode b_Mo_method 120 = .ok (.aload_n 0, 1) := by decide +kernel
theorem d_Mo_method_121 : decode b_Mo_method 121 = .ok (.dup, 1) := by decide +kernel
theorem d_Mo_method_122 : decode b_Mo_method 122 = .ok (.getfield 129, 3) := by decide +kernel
theorem d_Mo_method_125 : decode b_Mo_method 125 = .ok (.iconst 1, 1) := by decide +kernel
theorem d_Mo_method_126 : decode b_Mo_method 126 = .ok (.iadd, 1) := by decide +kernel
theorem d_Mo_method_127 : decode b_Mo_method 127 = .ok (.putfield 129, 3) := by decide +kernel
theorem d_Mo_method_130 : decode b_Mo_method 130 = .ok (.aload_n 0, 1) := by decide +kernel
theorem d_Mo_method_131 : decode b_Mo_method 131 = .ok (.invokevirtual 126, 3) := by decide +kernel
theorem d_Mo_method_134 : decode b_Mo_method 134 = .ok (.aload_n 0, 1) := by decide +kernel
theorem d_Mo_method_135 : decode b_Mo_method 135 = .ok (.getfield 129, 3) := by decide +kernel
theorem d_Mo_method_138 : decode b_Mo_method 138 = .ok (.iconst 1, 1) := by decide +kernel
theorem d_Mo_method_139 : decode b_Mo_method 139 = .ok (.isub, 1) := by decide +kernel
theorem d_Mo_method_140 : decode b_Mo_method 140 = .ok (.ireturn, 1) := by decide +kernel
theorem d_Mo_ownMethod_0 : decode b_Mo_ownMethod 0 = .ok (.iconst 0, 1) := by decide +kernel
theorem d_Mo_ownMethod_1 : decode b_Mo_ownMethod 1 = .ok (.istore_n 3, 1) := by decide +kernel
theorem d_Mo_ownMethod_2 : decode b_Mo_ownMethod 2 = .ok (.iload_n 3, 1) := by decide +kernel
theorem d_Mo_ownMethod_3 : decode b_Mo_ownMethod 3 = .ok (.aload_n 0, 1) := by decide +kernel
theorem d_Mo_ownMethod_4 : decode b_Mo_ownMethod 4 = .ok (.getfield 129, 3) := by decide +kernel
theorem d_Mo_ownMethod_7 : decode b_Mo_ownMethod 7 = .ok (.if_icmp .ge 31, 3) := by decide +kernel
theorem d_Mo_ownMethod_10 : decode b_Mo_ownMethod 10 = .ok (.aload_n 0, 1) := by decide +kernel
theorem d_Mo_ownMethod_11 : decode b_Mo_ownMethod 11 = .ok (.getfield 19, 3) := by decide +kernel
theorem d_Mo_ownMethod_14 : decode b_Mo_ownMethod 14 = .ok (.iload_n 3, 1) := by decide +kernel
theorem d_Mo_ownMethod_15 : decode b_Mo_ownMethod 15 = .ok (.iaload, 1) := by decide +kernel
theorem d_Mo_ownMethod_16 : decode b_Mo_ownMethod 16 = .ok (.iload_n 1, 1) := by decide +kernel
theorem d_Mo_ownMethod_17 : decode b_Mo_ownMethod 17 = .ok (.if_icmp .ne 15, 3) := by decide +kernel
theorem d_Mo_ownMethod_20 : decode b_Mo_ownMethod 20 = .ok (.aload_n 0, 1) := by decide +kernel
theorem d_Mo_ownMethod_21 : decode b_Mo_ownMethod 21 = .ok (.getfield 22, 3) := by decide +kernel
theorem d_Mo_ownMethod_24 : decode b_Mo_ownMethod 24 = .ok (.iload_n 3, 1) := by decide +kernel
theorem d_Mo_ownMethod_25 : decode b_Mo_ownMethod 25 = .ok (.iaload, 1) := by decide +kernel
theorem d_Mo_ownMethod_26 : decode b_Mo_ownMethod 26 = .ok (.iload_n 2, 1) := by decide +kernel
theorem d_Mo_ownMethod_27 : decode b_Mo_ownMethod 27 = .ok (.if_icmp .ne 5, 3) := by decide +kernel
theorem d_Mo_ownMethod_30 : decode b_Mo_ownMethod 30 = .ok (.iload_n 3, 1) := by decide +kernel
theorem d_Mo_ownMethod_31 : decode b_Mo_ownMethod 31 = .ok (.ireturn, 1) := by decide +kernel
theorem d_Mo_ownMethod_32 : decode b_Mo_ownMethod 32 = .ok (.iinc 3 1, 3) := by decide +kernel
theorem d_Mo_ownMethod_35 : decode b_Mo_ownMethod 35 = .ok (.goto (-33), 3) := by decide +kernel
theorem d_Mo_ownMethod_38 : decode b_Mo_ownMethod 38 = .ok (.iconst (-1), 1) := by decide +kernel
theorem d_Mo_ownMethod_39 : decode b_Mo_ownMethod 39 = .ok (.ireturn, 1) := by decide +kernel
theorem d_Mo_initialiser_0 : decode b_Mo_initialiser 0 = .ok (.iload_n 1, 1) := by decide +kernel
theorem d_Mo_initialiser_1 : decode b_Mo_initialiser 1 = .ok (.aload_n 0, 1) := by decide +kernel
theorem d_Mo_initialiser_2 : decode b_Mo_initialiser 2 = .ok (.getfield 114, 3) := by decide +kernel
theorem d_Mo_initialiser_5 : decode b_Mo_initialiser 5 = .ok (.iconst 1, 1) := by decide +kernel
theorem d_Mo_initialiser_6 : decode b_Mo_initialiser 6 = .ok (.isub, 1) := by decide +kernel
theorem d_Mo_initialiser_7 : decode b_Mo_initialiser 7 = .ok (.invokestatic 118, 3) := by decide +kernel
theorem d_Mo_initialiser_10 : decode b_Mo_initialiser 10 = .ok (.ifCond .eq 34, 3) := by decide +kernel
theorem d_Mo_initialiser_13 : decode b_Mo_initialiser 13 = .ok (.iload_n 2, 1) := by decide +kernel
theorem d_Mo_initialiser_14 : decode b_Mo_initialiser 14 = .ok (.aload_n 0, 1) := by decide +kernel
theorem d_Mo_initialiser_15 : decode b_Mo_initialiser 15 = .ok (.getfield 129, 3) := by decide +kernel
theorem d_Mo_initialiser_18 : decode b_Mo_initialiser 18 = .ok (.iconst 1, 1) := by decide +kernel
theorem d_Mo_initialiser_19 : decode b_Mo_initialiser 19 = .ok (.isub, 1) := by decide +kernel
theorem d_Mo_initialiser_20 : decode b_Mo_initialiser 20 = .ok (.invokestatic 118, 3) := by decide +kernel
theorem d_Mo_initialiser_23 : decode b_Mo_initialiser 23 = .ok (.ifCond .eq 21, 3) := by decide +kernel
theorem d_Mo_initialiser_26 : decode b_Mo_initialiser 26 = .ok (.aload_n 0, 1) := by decide +kernel
theorem d_Mo_initialiser_27 : decode b_Mo_initialiser 27 = .ok (.getfield 22, 3) := by decide +kernel
theorem d_Mo_initialiser_30 : decode b_Mo_initialiser 30 = .ok (.iload_n 2, 1) := by decide +kernel
theorem d_Mo_initialiser_31 : decode b_Mo_initialiser 31 = .ok (.iaload, 1) := by decide +kernel
theorem d_Mo_initialiser_32 : decode b_Mo_initialiser 32 = .ok (.ifCond .ge 12, 3) := by decide +kernel
theorem d_Mo_initialiser_35 : decode b_Mo_initialiser 35 = .ok (.aload_n 0, 1) := by decide +kernel
theorem d_Mo_initialiser_36 : decode b_Mo_initialiser 36 = .ok (.getfield 25, 3) := by decide +kernel
theorem d_Mo_initialiser_39 : decode b_Mo_initialiser 39 = .ok (.iload_n 2, 1) := by decide +kernel
theorem d_Mo_initialiser_40 : decode b_Mo_initialiser 40 = .ok (.iaload, 1) := by decide +kernel
theorem d_Mo_initialiser_41 : decode b_Mo_initialiser 41 = .ok (.ifCond .le 5, 3) := by decide +kernel
theorem d_Mo_initialiser_44 : decode b_Mo_initialiser 44 = .ok (.iconst 0, 1) := by decide +kernel
theorem d_Mo_initialiser_45 : decode b_Mo_initialiser 45 = .ok (.ireturn, 1) := by decide +kernel
theorem d_Mo_initialiser_46 : decode b_Mo_initialiser 46 = .ok (.aload_n 0, 1) := by decide +kernel
theorem d_Mo_initialiser_47 : decode b_Mo_initialiser 47 = .ok (.getfield 16, 3) := by decide +kernel
theorem d_Mo_initialiser_50 : decode b_Mo_initialiser 50 = .ok (.iload_n 1, 1) := by decide +kernel
theorem d_Mo_initialiser_51 : decode b_Mo_initialiser 51 = .ok (.iload_n 2, 1) := by decide +kernel
theorem d_Mo_initialiser_52 : decode b_Mo_initialiser 52 = .ok (.iastore, 1) := by decide +kernel
theorem d_Mo_initialiser_53 : decode b_Mo_initialiser 53 = .ok (.aload_n 0, 1) := by decide +kernel
theorem d_Mo_initialiser_54 : decode b_Mo_initialiser 54 = .ok (.invokevirtual 126, 3) := by decide +kernel
theorem d_Mo_initialiser_57 : decode b_Mo_initialiser 57 = .ok (.iconst 1, 1) := by decide +kernel
theorem d_Mo_initialiser_58 : decode b_Mo_initialiser 58 = .ok (.ireturn, 1) := by decide +kernel
theorem d_Mo_code_0 : decode b_Mo_code 0 = .ok (.iload_n 1, 1) := by decide +kernel
theorem d_Mo_code_1 : decode b_Mo_code 1 = .ok (.aload_n 0, 1) := by decide +kernel
theorem d_Mo_code_2 : decode b_Mo_code 2 = .ok (.getfield 129, 3) := by decide +kernel
theorem d_Mo_code_5 : decode b_Mo_code 5 = .ok (.iconst 1, 1) := by decide +kernel
theorem d_Mo_code_6 : decode b_Mo_code 6 = .ok (.isub, 1) := by decide +kernel
theorem d_Mo_code_7 : decode b_Mo_code 7 = .ok (.invokestatic 118, 3) := by decide +kernel
theorem d_Mo_code_10 : decode b_Mo_code 10 = .ok (.ifCond .eq 32, 3) := by decide +kernel
theorem d_Mo_code_13 : decode b_Mo_code 13 = .ok (.aload_n 0, 1) := by decide +kernel
theorem d_Mo_code_14 : decode b_Mo_code 14 = .ok (.getfield 28, 3) := by decide +kernel
theorem d_Mo_code_17 : decode b_Mo_code 17 = .ok (.iload_n 1, 1) := by decide +kernel
theorem d_Mo_code_18 : decode b_Mo_code 18 = .ok (.iaload, 1) := by decide +kernel
theorem d_Mo_code_19 : decode b_Mo_code 19 = .ok (.bipush 20, 2) := by decide +kernel
theorem d_Mo_code_21 : decode b_Mo_code 21 = .ok (.if_icmp .eq 21, 3) := by decide +kernel
theorem d_Mo_code_24 : decode b_Mo_code 24 = .ok (.iload_n 2, 1) := by decide +kernel
theorem d_Mo_code_25 : decode b_Mo_code 25 = .ok (.bipush 22, 2) := by decide +kernel
theorem d_Mo_code_27 : decode b_Mo_code 27 = .ok (.invokestatic 118, 3) := by decide +kernel
theorem d_Mo_code_30 : decode b_Mo_code 30 = .ok (.ifCond .eq 12, 3) := by decide +kernel
theorem d_Mo_code_33 : decode b_Mo_code 33 = .ok (.aload_n 0, 1) := by decide +kernel
theorem d_Mo_code_34 : decode b_Mo_code 34 = .ok (.iload_n 2, 1) := by decide +kernel
theorem d_Mo_code_35 : decode b_Mo_code 35 = .ok (.iload_n 3, 1) := by decide +kernel
theorem d_Mo_code_36 : decode b_Mo_code 36 = .ok (.invokevirtual 136, 3) := by decide +kernel
theorem d_Mo_code_39 : decode b_Mo_code 39 = .ok (.ifCond .ne 5, 3) := by decide +kernel
theorem d_Mo_code_42 : decode b_Mo_code 42 = .ok (.iconst (-1), 1) := by decide +kernel
theorem d_Mo_code_43 : decode b_Mo_code 43 = .ok (.ireturn, 1) := by decide +kernel
theorem d_Mo_code_44 : decode b_Mo_code 44 = .ok (.aload_n 0, 1) := by decide +kernel
theorem d_Mo_code_45 : decode b_Mo_code 45 = .ok (.getfield 31, 3) := by decide +kernel
theorem d_Mo_code_48 : decode b_Mo_code 48 = .ok (.bipush 20, 2) := by decide +kernel
theorem d_Mo_code_50 : decode b_Mo_code 50 = .ok (.iload_n 1, 1) := by decide +kernel
theorem d_Mo_code_51 : decode b_Mo_code 51 = .ok (.imul, 1) := by decide +kernel
theorem d_Mo_code_52 : decode b_Mo_code 52 = .ok (.aload_n 0, 1) := by decide +kernel
theorem d_Mo_code_53 : decode b_Mo_code 53 = .ok (.getfield 28, 3) := by decide +kernel
theorem d_Mo_code_56 : decode b_Mo_code 56 = .ok (.iload_n 1, 1) := by decide +kernel
theorem d_Mo_code_57 : decode b_Mo_code 57 = .ok (.iaload, 1) := by decide +kernel
theorem d_Mo_code_58 : decode b_Mo_code 58 = .ok (.iadd, 1) := by decide +kernel
theorem d_Mo_code_59 : decode b_Mo_code 59 = .ok (.iload_n 2, 1) := by decide +kernel
theorem d_Mo_code_60 : decode b_Mo_code 60 = .ok (.iastore, 1) := by decide +kernel
theorem d_Mo_code_61 : decode b_Mo_code 61 = .ok (.aload_n 0, 1) := by decide +kernel
theorem d_Mo_code_62 : decode b_Mo_code 62 = .ok (.getfield 34, 3) := by decide +kernel
theorem d_Mo_code_65 : decode b_Mo_code 65 = .ok (.bipush 20, 2) := by decide +kernel
theorem d_Mo_code_67 : decode b_Mo_code 67 = .ok (.iload_n 1, 1) := by decide +kernel
theorem d_Mo_code_68 : decode b_Mo_code 68 = .ok (.imul, 1) := by decide +kernel
theorem d_Mo_code_69 : decode b_Mo_code 69 = .ok (.aload_n 0, 1) := by decide +kernel
theorem d_Mo_code_70 : decode b_Mo_code 70 = .ok (.getfield 28, 3) := by decide +kernel
theorem d_Mo_code_73 : decode b_Mo_code 73 = .ok (.iload_n 1, 1) := by decide +kernel
theorem d_Mo_code_74 : decode b_Mo_code 74 = .ok (.iaload, 1) := by decide +kernel
theorem d_Mo_code_75 : decode b_Mo_code 75 = .ok (.iadd, 1) := by decide +kernel
theorem d_Mo_code_76 : decode b_Mo_code 76 = .ok (.iload_n 3, 1) := by decide +kernel
theorem d_Mo_code_77 : decode b_Mo_code 77 = .ok (.iastore, 1) := by decide +kernel
theorem d_Mo_code_78 : decode b_Mo_code 78 = .ok (.aload_n 0, 1) := by decide +kernel
theorem d_Mo_code_79 : decode b_Mo_code 79 = .ok (.getfield 28, 3) := by decide +kernel
theorem d_Mo_code_82 : decode b_Mo_code 82 = .ok (.iload_n 1, 1) := by decide +kernel
theorem d_Mo_code_83 : decode b_Mo_code 83 = .ok (.dup2, 1) := by decide +kernel
theorem d_Mo_code_84 : decode b_Mo_code 84 = .ok (.iaload, 1) := by decide +kernel
theorem d_Mo_code_85 : decode b_Mo_code 85 = .ok (.iconst 1, 1) := by decide +kernel
theorem d_Mo_code_86 : decode b_Mo_code 86 = .ok (.iadd, 1) := by decide +kernel
theorem d_Mo_code_87 : decode b_Mo_code 87 = .ok (.iastore, 1) := by decide +kernel
theorem d_Mo_code_88 : decode b_Mo_code 88 = .ok (.aload_n 0, 1) := by decide +kernel
theorem d_Mo_code_89 : decode b_Mo_code 89 = .ok (.invokevirtual 126, 3) := by decide +kernel
theorem d_Mo_code_92 : decode b_Mo_code 92 = .ok (.aload_n 0, 1) := by decide +kernel
theorem d_Mo_code_93 : decode b_Mo_code 93 = .ok (.getfield 28, 3) := by decide +kernel
theorem d_Mo_code_96 : decode b_Mo_code 96 = .ok (.iload_n 1, 1) := by decide +kernel
theorem d_Mo_code_97 : decode b_Mo_code 97 = .ok (.iaload, 1) := by decide +kernel
theorem d_Mo_code_98 : decode b_Mo_code 98 = .ok (.iconst 1, 1) := by decide +kernel
theorem d_Mo_code_99 : decode b_Mo_code 99 = .ok (.isub, 1) := by decide +kernel
theorem d_Mo_code_100 : decode b_Mo_code 100 = .ok (.ireturn, 1) := by decide +kernel
theorem d_Mo_fits_0 : decode b_Mo_fits 0 = .ok (.iload_n 1, 1) := by decide +kernel
theorem d_Mo_fits_1 : decode b_Mo_fits 1 = .ok (.iconst 1, 1) := by decide +kernel
theorem d_Mo_fits_2 : decode b_Mo_fits 2 = .ok (.if_icmp .eq 33, 3) := by decide +kernel
theorem d_Mo_fits_5 : decode b_Mo_fits 5 = .ok (.iload_n 1, 1) := by decide +kernel
theorem d_Mo_fits_6 : decode b_Mo_fits 6 = .ok (.bipush 11, 2) := by decide +kernel
theorem d_Mo_fits_8 : decode b_Mo_fits 8 = .ok (.if_icmp .eq 27, 3) := by decide +kernel
theorem d_Mo_fits_11 : decode b_Mo_fits 11 = .ok (.iload_n 1, 1) := by decide +kernel
theorem d_Mo_fits_12 : decode b_Mo_fits 12 = .ok (.bipush 14, 2) := by decide +kernel
theorem d_Mo_fits_14 : decode b_Mo_fits 14 = .ok (.if_icmp .eq 21, 3) := by decide +kernel
theorem d_Mo_fits_17 : decode b_Mo_fits 17 = .ok (.iload_n 1, 1) := by decide +kernel
theorem d_Mo_fits_18 : decode b_Mo_fits 18 = .ok (.bipush 15, 2) := by decide +kernel
theorem d_Mo_fits_20 : decode b_Mo_fits 20 = .ok (.if_icmp .eq 15, 3) := by decide +kernel
theorem d_Mo_fits_23 : decode b_Mo_fits 23 = .ok (.iload_n 1, 1) := by decide +kernel
theorem d_Mo_fits_24 : decode b_Mo_fits 24 = .ok (.bipush 18, 2) := by decide +kernel
theorem d_Mo_fits_26 : decode b_Mo_fits 26 = .ok (.if_icmp .eq 9, 3) := by decide +kernel
theorem d_Mo_fits_29 : decode b_Mo_fits 29 = .ok (.iload_n 1, 1) := by decide +kernel
theorem d_Mo_fits_30 : decode b_Mo_fits 30 = .ok (.bipush 19, 2) := by decide +kernel
theorem d_Mo_fits_32 : decode b_Mo_fits 32 = .ok (.if_icmp .ne 14, 3) := by decide +kernel
theorem d_Mo_fits_35 : decode b_Mo_fits 35 = .ok (.iload_n 2, 1) := by decide +kernel
theorem d_Mo_fits_36 : decode b_Mo_fits 36 = .ok (.aload_n 0, 1) := by decide +kernel
theorem d_Mo_fits_37 : decode b_Mo_fits 37 = .ok (.getfield 114, 3) := by decide +kernel
theorem d_Mo_fits_40 : decode b_Mo_fits 40 = .ok (.iconst 1, 1) := by decide +kernel
theorem d_Mo_fits_41 : decode b_Mo_fits 41 = .ok (.isub, 1) := by decide +kernel
theorem d_Mo_fits_42 : decode b_Mo_fits 42 = .ok (.invokestatic 118, 3) := by decide +kernel
theorem d_Mo_fits_45 : decode b_Mo_fits 45 = .ok (.ireturn, 1) := by decide +kernel
theorem d_Mo_fits_46 : decode b_Mo_fits 46 = .ok (.iload_n 1, 1) := by decide +kernel
theorem d_Mo_fits_47 : decode b_Mo_fits 47 = .ok (.iconst 2, 1) := by decide +kernel
theorem d_Mo_fits_48 : decode b_Mo_fits 48 = .ok (.if_icmp .eq 14, 3) := by decide +kernel
theorem d_Mo_fits_51 : decode b_Mo_fits 51 = .ok (.iload_n 1, 1) := by decide +kernel
theorem d_Mo_fits_52 : decode b_Mo_fits 52 = .ok (.iconst 3, 1) := by decide +kernel
theorem d_Mo_fits_53 : decode b_Mo_fits 53 = .ok (.if_icmp .eq 9, 3) := by decide +kernel
theorem d_Mo_fits_56 : decode b_Mo_fits 56 = .ok (.iload_n 1, 1) := by decide +kernel
theorem d_Mo_fits_57 : decode b_Mo_fits 57 = .ok (.bipush 17, 2) := by decide +kernel
theorem d_Mo_fits_59 : decode b_Mo_fits 59 = .ok (.if_icmp .ne 9, 3) := by decide +kernel
theorem d_Mo_fits_62 : decode b_Mo_fits 62 = .ok (.iload_n 2, 1) := by decide +kernel
theorem d_Mo_fits_63 : decode b_Mo_fits 63 = .ok (.iconst 3, 1) := by decide +kernel
theorem d_Mo_fits_64 : decode b_Mo_fits 64 = .ok (.invokestatic 118, 3) := by decide +kernel
theorem d_Mo_fits_67 : decode b_Mo_fits 67 = .ok (.ireturn, 1) := by decide +kernel
theorem d_Mo_fits_68 : decode b_Mo_fits 68 = .ok (.iload_n 1, 1) := by decide +kernel
theorem d_Mo_fits_69 : decode b_Mo_fits 69 = .ok (.bipush 9, 2) := by decide +kernel
theorem d_Mo_fits_71 : decode b_Mo_fits 71 = .ok (.if_icmp .eq 9, 3) := by decide +kernel
theorem d_Mo_fits_74 : decode b_Mo_fits 74 = .ok (.iload_n 1, 1) := by decide +kernel
theorem d_Mo_fits_75 : decode b_Mo_fits 75 = .ok (.bipush 10, 2) := by decide +kernel
theorem d_Mo_fits_77 : decode b_Mo_fits 77 = .ok (.if_icmp .ne 10, 3) := by decide +kernel
theorem d_Mo_fits_80 : decode b_Mo_fits 80 = .ok (.iload_n 2, 1) := by decide +kernel
theorem d_Mo_fits_81 : decode b_Mo_fits 81 = .ok (.bipush 19, 2) := by decide +kernel
theorem d_Mo_fits_83 : decode b_Mo_fits 83 = .ok (.invokestatic 118, 3) := by decide +kernel
theorem d_Mo_fits_86 : decode b_Mo_fits 86 = .ok (.ireturn, 1) := by decide +kernel
theorem d_Mo_fits_87 : decode b_Mo_fits 87 = .ok (.iload_n 1, 1) := by decide +kernel
theorem d_Mo_fits_88 : decode b_Mo_fits 88 = .ok (.bipush 12, 2) := by decide +kernel
theorem d_Mo_fits_90 : decode b_Mo_fits 90 = .ok (.if_icmp .eq 9, 3) := by decide +kernel
theorem d_Mo_fits_93 : decode b_Mo_fits 93 = .ok (.iload_n 1, 1) := by decide +kernel
theorem d_Mo_fits_94 : decode b_Mo_fits 94 = .ok (.bipush 13, 2) := by decide +kernel
theorem d_Mo_fits_96 : decode b_Mo_fits 96 = .ok (.if_icmp .ne 9, 3) := by decide +kernel
theorem d_Mo_fits_99 : decode b_Mo_fits 99 = .ok (.iload_n 2, 1) := by decide +kernel
theorem d_Mo_fits_100 : decode b_Mo_fits 100 = .ok (.iconst 5, 1) := by decide +kernel
theorem d_Mo_fits_101 : decode b_Mo_fits 101 = .ok (.invokestatic 118, 3) := by decide +kernel
theorem d_Mo_fits_104 : decode b_Mo_fits 104 = .ok (.ireturn, 1) := by decide +kernel
theorem d_Mo_fits_105 : decode b_Mo_fits 105 = .ok (.iload_n 1, 1) := by decide +kernel
theorem d_Mo_fits_106 : decode b_Mo_fits 106 = .ok (.bipush 16, 2) := by decide +kernel
theorem d_Mo_fits_108 : decode b_Mo_fits 108 = .ok (.if_icmp .ne 25, 3) := by decide +kernel
theorem d_Mo_fits_111 : decode b_Mo_fits 111 = .ok (.iload_n 2, 1) := by decide +kernel
theorem d_Mo_fits_112 : decode b_Mo_fits 112 = .ok (.aload_n 0, 1) := by decide +kernel
theorem d_Mo_fits_113 : decode b_Mo_fits 113 = .ok (.getfield 129, 3) := by decide +kernel
theorem d_Mo_fits_116 : decode b_Mo_fits 116 = .ok (.iconst 1, 1) := by decide +kernel
theorem d_Mo_fits_117 : decode b_Mo_fits 117 = .ok (.isub, 1) := by decide +kernel
theorem d_Mo_fits_118 : decode b_Mo_fits 118 = .ok (.invokestatic 118, 3) := by decide +kernel
theorem d_Mo_fits_121 : decode b_Mo_fits 121 = .ok (.ifCond .eq 16, 3) := by decide +kernel
theorem d_Mo_fits_124 : decode b_Mo_fits 124 = .ok (.aload_n 0, 1) := by decide +kernel
theorem d_Mo_fits_125 : decode b_Mo_fits 125 = .ok (.getfield 22, 3) := by decide +kernel
theorem d_Mo_fits_128 : decode b_Mo_fits 128 = .ok (.iload_n 2, 1) := by decide +kernel
theorem d_Mo_fits_129 : decode b_Mo_fits 129 = .ok (.iaload, 1) := by decide +kernel
theorem d_Mo_fits_130 : decode b_Mo_fits 130 = .ok (.ifCond .ge 7, 3) := by decide +kernel
theorem d_Mo_fits_133 : decode b_Mo_fits 133 = .ok (.iconst 1, 1) := by decide +kernel
theorem d_Mo_fits_134 : decode b_Mo_fits 134 = .ok (.goto 4, 3) := by decide +kernel
theorem d_Mo_fits_137 : decode b_Mo_fits 137 = .ok (.iconst 0, 1) := by decide +kernel
theorem d_Mo_fits_138 : decode b_Mo_fits 138 = .ok (.ireturn, 1) := by decide +kernel
theorem d_Mo_guard_0 : decode b_Mo_guard 0 = .ok (.iload_n 1, 1) := by decide +kernel
theorem d_Mo_guard_1 : decode b_Mo_guard 1 = .ok (.aload_n 0, 1) := by decide +kernel
theorem d_Mo_guard_2 : decode b_Mo_guard 2 = .ok (.getfield 129, 3) := by decide +kernel
theorem d_Mo_guard_5 : decode b_Mo_guard 5 = .ok (.iconst 1, 1) := by decide +kernel
theorem d_Mo_guard_6 : decode b_Mo_guard 6 = .ok (.isub, 1) := by decide +kernel
theorem d_Mo_guard_7 : decode b_Mo_guard 7 = .ok (.invokestatic 118, 3) := by decide +kernel
theorem d_Mo_guard_10 : decode b_Mo_guard 10 = .ok (.ifCond .eq 38, 3) := by decide +kernel
theorem d_Mo_guard_13 : decode b_Mo_guard 13 = .ok (.aload_n 0, 1) := by decide +kernel
theorem d_Mo_guard_14 : decode b_Mo_guard 14 = .ok (.getfield 37, 3) := by decide +kernel
theorem d_Mo_guard_17 : decode b_Mo_guard 17 = .ok (.iload_n 1, 1) := by decide +kernel
theorem d_Mo_guard_18 : decode b_Mo_guard 18 = .ok (.iaload, 1) := by decide +kernel
theorem d_Mo_guard_19 : decode b_Mo_guard 19 = .ok (.iconst 3, 1) := by decide +kernel
theorem d_Mo_guard_20 : decode b_Mo_guard 20 = .ok (.if_icmp .eq 28, 3) := by decide +kernel
theorem d_Mo_guard_23 : decode b_Mo_guard 23 = .ok (.iload_n 2, 1) := by decide +kernel
theorem d_Mo_guard_24 : decode b_Mo_guard 24 = .ok (.ifCond .lt 24, 3) := by decide +kernel
theorem d_Mo_guard_27 : decode b_Mo_guard 27 = .ok (.iload_n 2, 1) := by decide +kernel
theorem d_Mo_guard_28 : decode b_Mo_guard 28 = .ok (.iload_n 3, 1) := by decide +kernel
theorem d_Mo_guard_29 : decode b_Mo_guard 29 = .ok (.if_icmp .ge 19, 3) := by decide +kernel
theorem d_Mo_guard_32 : decode b_Mo_guard 32 = .ok (.iload_n 3, 1) := by decide +kernel
theorem d_Mo_guard_33 : decode b_Mo_guard 33 = .ok (.bipush 20, 2) := by decide +kernel
theorem d_Mo_guard_35 : decode b_Mo_guard 35 = .ok (.if_icmp .gt 13, 3) := by decide +kernel
theorem d_Mo_guard_38 : decode b_Mo_guard 38 = .ok (.iload 4, 2) := by decide +kernel
theorem d_Mo_guard_40 : decode b_Mo_guard 40 = .ok (.bipush 19, 2) := by decide +kernel
theorem d_Mo_guard_42 : decode b_Mo_guard 42 = .ok (.invokestatic 118, 3) := by decide +kernel
theorem d_Mo_guard_45 : decode b_Mo_guard 45 = .ok (.ifCond .ne 5, 3) := by decide +kernel
theorem d_Mo_guard_48 : decode b_Mo_guard 48 = .ok (.iconst 0, 1) := by decide +kernel
theorem d_Mo_guard_49 : decode b_Mo_guard 49 = .ok (.ireturn, 1) := by decide +kernel
theorem d_Mo_guard_50 : decode b_Mo_guard 50 = .ok (.iconst 3, 1) := by decide +kernel
theorem d_Mo_guard_51 : decode b_Mo_guard 51 = .ok (.iload_n 1, 1) := by decide +kernel
theorem d_Mo_guard_52 : decode b_Mo_guard 52 = .ok (.imul, 1) := by decide +kernel
theorem d_Mo_guard_53 : decode b_Mo_guard 53 = .ok (.aload_n 0, 1) := by decide +kernel
theorem d_Mo_guard_54 : decode b_Mo_guard 54 = .ok (.getfield 37, 3) := by decide +kernel
theorem d_Mo_guard_57 : decode b_Mo_guard 57 = .ok (.iload_n 1, 1) := by decide +kernel
theorem d_Mo_guard_58 : decode b_Mo_guard 58 = .ok (.iaload, 1) := by decide +kernel
theorem d_Mo_guard_59 : decode b_Mo_guard 59 = .ok (.iadd, 1) := by decide +kernel
theorem d_Mo_guard_60 : decode b_Mo_guard 60 = .ok (.istore 5, 2) := by decide +kernel
theorem d_Mo_guard_62 : decode b_Mo_guard 62 = .ok (.aload_n 0, 1) := by decide +kernel
theorem d_Mo_guard_63 : decode b_Mo_guard 63 = .ok (.getfield 40, 3) := by decide +kernel
theorem d_Mo_guard_66 : decode b_Mo_guard 66 = .ok (.iload 5, 2) := by decide +kernel
theorem d_Mo_guard_68 : decode b_Mo_guard 68 = .ok (.iload_n 2, 1) := by decide +kernel
theorem d_Mo_guard_69 : decode b_Mo_guard 69 = .ok (.iastore, 1) := by decide +kernel
theorem d_Mo_guard_70 : decode b_Mo_guard 70 = .ok (.aload_n 0, 1) := by decide +kernel
theorem d_Mo_guard_71 : decode b_Mo_guard 71 = .ok (.getfield 43, 3) := by decide +kernel
theorem d_Mo_guard_74 : decode b_Mo_guard 74 = .ok (.iload 5, 2) := by decide +kernel
theorem d_Mo_guard_76 : decode b_Mo_guard 76 = .ok (.iload_n 3, 1) := by decide +kernel
theorem d_Mo_guard_77 : decode b_Mo_guard 77 = .ok (.iastore, 1) := by decide +kernel
theorem d_Mo_guard_78 : decode b_Mo_guard 78 = .ok (.aload_n 0, 1) := by decide +kernel
theorem d_Mo_guard_79 : decode b_Mo_guard 79 = .ok (.getfield 46, 3) := by decide +kernel
theorem d_Mo_guard_82 : decode b_Mo_guard 82 = .ok (.iload 5, 2) := by decide +kernel
theorem d_Mo_guard_84 : decode b_Mo_guard 84 = .ok (.iload 4, 2) := by decide +kernel
theorem d_Mo_guard_86 : decode b_Mo_guard 86 = .ok (.iastore, 1) := by decide +kernel
theorem d_Mo_guard_87 : decode b_Mo_guard 87 = .ok (.aload_n 0, 1) := by decide +kernel
theorem d_Mo_guard_88 : decode b_Mo_guard 88 = .ok (.getfield 37, 3) := by decide +kernel
theorem d_Mo_guard_91 : decode b_Mo_guard 91 = .ok (.iload_n 1, 1) := by decide +kernel
theorem d_Mo_guard_92 : decode b_Mo_guard 92 = .ok (.dup2, 1) := by decide +kernel
theorem d_Mo_guard_93 : decode b_Mo_guard 93 = .ok (.iaload, 1) := by decide +kernel
theorem d_Mo_guard_94 : decode b_Mo_guard 94 = .ok (.iconst 1, 1) := by decide +kernel
theorem d_Mo_guard_95 : decode b_Mo_guard 95 = .ok (.iadd, 1) := by decide +kernel
theorem d_Mo_guard_96 : decode b_Mo_guard 96 = .ok (.iastore, 1) := by decide +kernel
theorem d_Mo_guard_97 : decode b_Mo_guard 97 = .ok (.aload_n 0, 1) := by decide +kernel
theorem d_Mo_guard_98 : decode b_Mo_guard 98 = .ok (.invokevirtual 126, 3) := by decide +kernel
theorem d_Mo_guard_101 : decode b_Mo_guard 101 = .ok (.iconst 1, 1) := by decide +kernel
theorem d_Mo_guard_102 : decode b_Mo_guard 102 = .ok (.ireturn, 1) := by decide +kernel
theorem d_Mo_answer_0 : decode b_Mo_answer 0 = .ok (.iload_n 1, 1) := by decide +kernel
theorem d_Mo_answer_1 : decode b_Mo_answer 1 = .ok (.aload_n 0, 1) := by decide +kernel
theorem d_Mo_answer_2 : decode b_Mo_answer 2 = .ok (.getfield 114, 3) := by decide +kernel
theorem d_Mo_answer_5 : decode b_Mo_answer 5 = .ok (.iconst 1, 1) := by decide +kernel
theorem d_Mo_answer_6 : decode b_Mo_answer 6 = .ok (.isub, 1) := by decide +kernel
theorem d_Mo_answer_7 : decode b_Mo_answer 7 = .ok (.invokestatic 118, 3) := by decide +kernel
theorem d_Mo_answer_10 : decode b_Mo_answer 10 = .ok (.ifCond .eq 11, 3) := by decide +kernel
theorem d_Mo_answer_13 : decode b_Mo_answer 13 = .ok (.iload_n 2, 1) := by decide +kernel
theorem d_Mo_answer_14 : decode b_Mo_answer 14 = .ok (.iconst 3, 1) := by decide +kernel
theorem d_Mo_answer_15 : decode b_Mo_answer 15 = .ok (.invokestatic 118, 3) := by decide +kernel
theorem d_Mo_answer_18 : decode b_Mo_answer 18 = .ok (.ifCond .ne 5, 3) := by decide +kernel
theorem d_Mo_answer_21 : decode b_Mo_answer 21 = .ok (.iconst (-1), 1) := by decide +kernel
theorem d_Mo_answer_22 : decode b_Mo_answer 22 = .ok (.ireturn, 1) := by decide +kernel
theorem d_Mo_answer_23 : decode b_Mo_answer 23 = .ok (.iconst (-1), 1) := by decide +kernel
theorem d_Mo_answer_24 : decode b_Mo_answer 24 = .ok (.istore_n 3, 1) := by decide +kernel
theorem d_Mo_answer_25 : decode b_Mo_answer 25 = .ok (.iload_n 1, 1) := by decide +kernel
theorem d_Mo_answer_26 : decode b_Mo_answer 26 = .ok (.istore 4, 2) := by decide +kernel
theorem d_Mo_answer_28 : decode b_Mo_answer 28 = .ok (.iload 4, 2) := by decide +kernel
theorem d_Mo_answer_30 : decode b_Mo_answer 30 = .ok (.ifCond .lt 27, 3) := by decide +kernel
theorem d_Mo_answer_33 : decode b_Mo_answer 33 = .ok (.iload_n 3, 1) := by decide +kernel
theorem d_Mo_answer_34 : decode b_Mo_answer 34 = .ok (.ifCond .ge 23, 3) := by decide +kernel
theorem d_Mo_answer_37 : decode b_Mo_answer 37 = .ok (.aload_n 0, 1) := by decide +kernel
theorem d_Mo_answer_38 : decode b_Mo_answer 38 = .ok (.iload 4, 2) := by decide +kernel
theorem d_Mo_answer_40 : decode b_Mo_answer 40 = .ok (.iload_n 2, 1) := by decide +kernel
theorem d_Mo_answer_41 : decode b_Mo_answer 41 = .ok (.invokevirtual 132, 3) := by decide +kernel
theorem d_Mo_answer_44 : decode b_Mo_answer 44 = .ok (.istore_n 3, 1) := by decide +kernel
theorem d_Mo_answer_45 : decode b_Mo_answer 45 = .ok (.aload_n 0, 1) := by decide +kernel
theorem d_Mo_answer_46 : decode b_Mo_answer 46 = .ok (.getfield 7, 3) := by decide +kernel
theorem d_Mo_answer_49 : decode b_Mo_answer 49 = .ok (.iload 4, 2) := by decide +kernel
theorem d_Mo_answer_51 : decode b_Mo_answer 51 = .ok (.iaload, 1) := by decide +kernel
theorem d_Mo_answer_52 : decode b_Mo_answer 52 = .ok (.istore 4, 2) := by decide +kernel
theorem d_Mo_answer_54 : decode b_Mo_answer 54 = .ok (.goto (-26), 3) := by decide +kernel
theorem d_Mo_answer_57 : decode b_Mo_answer 57 = .ok (.iload_n 3, 1) := by decide +kernel
theorem d_Mo_answer_58 : decode b_Mo_answer 58 = .ok (.ireturn, 1) := by decide +kernel
theorem d_Mo_slot_0 : decode b_Mo_slot 0 = .ok (.iload_n 1, 1) := by decide +kernel
theorem d_Mo_slot_1 : decode b_Mo_slot 1 = .ok (.aload_n 0, 1) := by decide +kernel
theorem d_Mo_slot_2 : decode b_Mo_slot 2 = .ok (.getfield 114, 3) := by decide +kernel
theorem d_Mo_slot_5 : decode b_Mo_slot 5 = .ok (.iconst 1, 1) := by decide +kernel
theorem d_Mo_slot_6 : decode b_Mo_slot 6 = .ok (.isub, 1) := by decide +kernel
theorem d_Mo_slot_7 : decode b_Mo_slot 7 = .ok (.invokestatic 118, 3) := by decide +kernel
theorem d_Mo_slot_10 : decode b_Mo_slot 10 = .ok (.ifCond .eq 11, 3) := by decide +kernel
theorem d_Mo_slot_13 : decode b_Mo_slot 13 = .ok (.iload_n 2, 1) := by decide +kernel
theorem d_Mo_slot_14 : decode b_Mo_slot 14 = .ok (.iconst 3, 1) := by decide +kernel
theorem d_Mo_slot_15 : decode b_Mo_slot 15 = .ok (.invokestatic 118, 3) := by decide +kernel
theorem d_Mo_slot_18 : decode b_Mo_slot 18 = .ok (.ifCond .ne 5, 3) := by decide +kernel
theorem d_Mo_slot_21 : decode b_Mo_slot 21 = .ok (.iconst (-1), 1) := by decide +kernel
theorem d_Mo_slot_22 : decode b_Mo_slot 22 = .ok (.ireturn, 1) := by decide +kernel
theorem d_Mo_slot_23 : decode b_Mo_slot 23 = .ok (.aload_n 0, 1) := by decide +kernel
theorem d_Mo_slot_24 : decode b_Mo_slot 24 = .ok (.iload_n 1, 1) := by decide +kernel
theorem d_Mo_slot_25 : decode b_Mo_slot 25 = .ok (.iload_n 2, 1) := by decide +kernel
theorem d_Mo_slot_26 : decode b_Mo_slot 26 = .ok (.invokevirtual 139, 3) := by decide +kernel
theorem d_Mo_slot_29 : decode b_Mo_slot 29 = .ok (.istore_n 3, 1) := by decide +kernel
theorem d_Mo_slot_30 : decode b_Mo_slot 30 = .ok (.iload_n 3, 1) := by decide +kernel
theorem d_Mo_slot_31 : decode b_Mo_slot 31 = .ok (.ifCond .ge 7, 3) := by decide +kernel
theorem d_Mo_slot_34 : decode b_Mo_slot 34 = .ok (.iconst (-1), 1) := by decide +kernel
theorem d_Mo_slot_35 : decode b_Mo_slot 35 = .ok (.goto 9, 3) := by decide +kernel
theorem d_Mo_slot_38 : decode b_Mo_slot 38 = .ok (.aload_n 0, 1) := by decide +kernel
theorem d_Mo_slot_39 : decode b_Mo_slot 39 = .ok (.iload_n 1, 1) := by decide +kernel
theorem d_Mo_slot_40 : decode b_Mo_slot 40 = .ok (.iload_n 3, 1) := by decide +kernel
theorem d_Mo_slot_41 : decode b_Mo_slot 41 = .ok (.invokevirtual 145, 3) := by decide +kernel
theorem d_Mo_slot_44 : decode b_Mo_slot 44 = .ok (.ireturn, 1) := by decide +kernel
theorem d_Mo_maker_0 : decode b_Mo_maker 0 = .ok (.iconst (-1), 1) := by decide +kernel
theorem d_Mo_maker_1 : decode b_Mo_maker 1 = .ok (.istore_n 3, 1) := by decide +kernel
theorem d_Mo_maker_2 : decode b_Mo_maker 2 = .ok (.iload_n 1, 1) := by decide +kernel
theorem d_Mo_maker_3 : decode b_Mo_maker 3 = .ok (.istore 4, 2) := by decide +kernel
theorem d_Mo_maker_5 : decode b_Mo_maker 5 = .ok (.iload 4, 2) := by decide +kernel
theorem d_Mo_maker_7 : decode b_Mo_maker 7 = .ok (.ifCond .lt 36, 3) := by decide +kernel
theorem d_Mo_maker_10 : decode b_Mo_maker 10 = .ok (.aload_n 0, 1) := by decide +kernel
theorem d_Mo_maker_11 : decode b_Mo_maker 11 = .ok (.iload 4, 2) := by decide +kernel
theorem d_Mo_maker_13 : decode b_Mo_maker 13 = .ok (.iload_n 2, 1) := by decide +kernel
theorem d_Mo_maker_14 : decode b_Mo_maker 14 = .ok (.invokevirtual 132, 3) := by decide +kernel
theorem d_Mo_maker_17 : decode b_Mo_maker 17 = .ok (.istore 5, 2) := by decide +kernel
theorem d_Mo_maker_19 : decode b_Mo_maker 19 = .ok (.iload 5, 2) := by decide +kernel
theorem d_Mo_maker_21 : decode b_Mo_maker 21 = .ok (.ifCond .lt 8, 3) := by decide +kernel
theorem d_Mo_maker_24 : decode b_Mo_maker 24 = .ok (.iload 5, 2) := by decide +kernel
theorem d_Mo_maker_26 : decode b_Mo_maker 26 = .ok (.goto 4, 3) := by decide +kernel
theorem d_Mo_maker_29 : decode b_Mo_maker 29 = .ok (.iload_n 3, 1) := by decide +kernel
theorem d_Mo_maker_30 : decode b_Mo_maker 30 = .ok (.istore_n 3, 1) := by decide +kernel
theorem d_Mo_maker_31 : decode b_Mo_maker 31 = .ok (.aload_n 0, 1) := by decide +kernel
theorem d_Mo_maker_32 : decode b_Mo_maker 32 = .ok (.getfield 7, 3) := by decide +kernel
theorem d_Mo_maker_35 : decode b_Mo_maker 35 = .ok (.iload 4, 2) := by decide +kernel
theorem d_Mo_maker_37 : decode b_Mo_maker 37 = .ok (.iaload, 1) := by decide +kernel
theorem d_Mo_maker_38 : decode b_Mo_maker 38 = .ok (.istore 4, 2) := by decide +kernel
theorem d_Mo_maker_40 : decode b_Mo_maker 40 = .ok (.goto (-35), 3) := by decide +kernel
theorem d_Mo_maker_43 : decode b_Mo_maker 43 = .ok (.iload_n 3, 1) := by decide +kernel
theorem d_Mo_maker_44 : decode b_Mo_maker 44 = .ok (.ireturn, 1) := by decide +kernel
theorem d_Mo_before_0 : decode b_Mo_before 0 = .ok (.iconst 0, 1) := by decide +kernel
theorem d_Mo_before_1 : decode b_Mo_before 1 = .ok (.istore_n 3, 1) := by decide +kernel
theorem d_Mo_before_2 : decode b_Mo_before 2 = .ok (.iconst 0, 1) := by decide +kernel
theorem d_Mo_before_3 : decode b_Mo_before 3 = .ok (.istore 4, 2) := by decide +kernel
theorem d_Mo_before_5 : decode b_Mo_before 5 = .ok (.iload 4, 2) := by decide +kernel
theorem d_Mo_before_7 : decode b_Mo_before 7 = .ok (.iconst 4, 1) := by decide +kernel
theorem d_Mo_before_8 : decode b_Mo_before 8 = .ok (.if_icmp .ge 106, 3) := by decide +kernel
theorem d_Mo_before_11 : decode b_Mo_before 11 = .ok (.aload_n 0, 1) := by decide +kernel
theorem d_Mo_before_12 : decode b_Mo_before 12 = .ok (.iload_n 1, 1) := by decide +kernel
theorem d_Mo_before_13 : decode b_Mo_before 13 = .ok (.iload 4, 2) := by decide +kernel
theorem d_Mo_before_15 : decode b_Mo_before 15 = .ok (.invokevirtual 139, 3) := by decide +kernel
theorem d_Mo_before_18 : decode b_Mo_before 18 = .ok (.istore 5, 2) := by decide +kernel
theorem d_Mo_before_20 : decode b_Mo_before 20 = .ok (.iload 5, 2) := by decide +kernel
theorem d_Mo_before_22 : decode b_Mo_before 22 = .ok (.ifCond .lt 43, 3) := by decide +kernel
theorem d_Mo_before_25 : decode b_Mo_before 25 = .ok (.aload_n 0, 1) := by decide +kernel
theorem d_Mo_before_26 : decode b_Mo_before 26 = .ok (.getfield 19, 3) := by decide +kernel
theorem d_Mo_before_29 : decode b_Mo_before 29 = .ok (.iload 5, 2) := by decide +kernel
theorem d_Mo_before_31 : decode b_Mo_before 31 = .ok (.iaload, 1) := by decide +kernel
theorem d_Mo_before_32 : decode b_Mo_before 32 = .ok (.aload_n 0, 1) := by decide +kernel
theorem d_Mo_before_33 : decode b_Mo_before 33 = .ok (.getfield 19, 3) := by decide +kernel
theorem d_Mo_before_36 : decode b_Mo_before 36 = .ok (.iload_n 2, 1) := by decide +kernel
theorem d_Mo_before_37 : decode b_Mo_before 37 = .ok (.iaload, 1) := by decide +kernel
theorem d_Mo_before_38 : decode b_Mo_before 38 = .ok (.if_icmp .eq 27, 3) := by decide +kernel
theorem d_Mo_before_41 : decode b_Mo_before 41 = .ok (.aload_n 0, 1) := by decide +kernel
theorem d_Mo_before_42 : decode b_Mo_before 42 = .ok (.aload_n 0, 1) := by decide +kernel
theorem d_Mo_before_43 : decode b_Mo_before 43 = .ok (.getfield 19, 3) := by decide +kernel
theorem d_Mo_before_46 : decode b_Mo_before 46 = .ok (.iload_n 2, 1) := by decide +kernel
theorem d_Mo_before_47 : decode b_Mo_before 47 = .ok (.iaload, 1) := by decide +kernel
theorem d_Mo_before_48 : decode b_Mo_before 48 = .ok (.aload_n 0, 1) := by decide +kernel
theorem d_Mo_before_49 : decode b_Mo_before 49 = .ok (.getfield 19, 3) := by decide +kernel
theorem d_Mo_before_52 : decode b_Mo_before 52 = .ok (.iload 5, 2) := by decide +kernel
theorem d_Mo_before_54 : decode b_Mo_before 54 = .ok (.iaload, 1) := by decide +kernel
theorem d_Mo_before_55 : decode b_Mo_before 55 = .ok (.invokevirtual 142, 3) := by decide +kernel
theorem d_Mo_before_58 : decode b_Mo_before 58 = .ok (.ifCond .eq 7, 3) := by decide +kernel
theorem d_Mo_before_61 : decode b_Mo_before 61 = .ok (.iconst 1, 1) := by decide +kernel
theorem d_Mo_before_62 : decode b_Mo_before 62 = .ok (.goto 4, 3) := by decide +kernel
theorem d_Mo_before_65 : decode b_Mo_before 65 = .ok (.iconst 0, 1) := by decide +kernel
