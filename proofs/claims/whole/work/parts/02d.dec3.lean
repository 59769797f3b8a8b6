theorem dX7_pressPart_131 : decode cX7_pressPart 131 = .ok (.iinc 5 1, 3) := by decide +kernel
theorem dX7_pressPart_134 : decode cX7_pressPart 134 = .ok (.goto (-49), 3) := by decide +kernel
theorem dX7_pressPart_137 : decode cX7_pressPart 137 = .ok (.aload_n 0, 1) := by decide +kernel
theorem dX7_pressPart_138 : decode cX7_pressPart 138 = .ok (.getfield 22, 3) := by decide +kernel
theorem dX7_pressPart_141 : decode cX7_pressPart 141 = .ok (.aload_n 0, 1) := by decide +kernel
theorem dX7_pressPart_142 : decode cX7_pressPart 142 = .ok (.iload 7, 2) := by decide +kernel
theorem dX7_pressPart_144 : decode cX7_pressPart 144 = .ok (.invokevirtual 82, 3) := by decide +kernel
theorem dX7_pressPart_147 : decode cX7_pressPart 147 = .ok (.iaload, 1) := by decide +kernel
theorem dX7_pressPart_148 : decode cX7_pressPart 148 = .ok (.istore 8, 2) := by decide +kernel
theorem dX7_pressPart_150 : decode cX7_pressPart 150 = .ok (.iload 8, 2) := by decide +kernel
theorem dX7_pressPart_152 : decode cX7_pressPart 152 = .ok (.ifCond .lt 26, 3) := by decide +kernel
theorem dX7_pressPart_155 : decode cX7_pressPart 155 = .ok (.aload_n 0, 1) := by decide +kernel
theorem dX7_pressPart_156 : decode cX7_pressPart 156 = .ok (.iload 8, 2) := by decide +kernel
theorem dX7_pressPart_158 : decode cX7_pressPart 158 = .ok (.iload 7, 2) := by decide +kernel
theorem dX7_pressPart_160 : decode cX7_pressPart 160 = .ok (.invokevirtual 85, 3) := by decide +kernel
theorem dX7_pressPart_163 : decode cX7_pressPart 163 = .ok (.ifCond .ne 15, 3) := by decide +kernel
theorem dX7_pressPart_166 : decode cX7_pressPart 166 = .ok (.aload_n 0, 1) := by decide +kernel
theorem dX7_pressPart_167 : decode cX7_pressPart 167 = .ok (.getfield 26, 3) := by decide +kernel
theorem dX7_pressPart_170 : decode cX7_pressPart 170 = .ok (.iload 8, 2) := by decide +kernel
theorem dX7_pressPart_172 : decode cX7_pressPart 172 = .ok (.iaload, 1) := by decide +kernel
theorem dX7_pressPart_173 : decode cX7_pressPart 173 = .ok (.istore 8, 2) := by decide +kernel
theorem dX7_pressPart_175 : decode cX7_pressPart 175 = .ok (.goto (-25), 3) := by decide +kernel
theorem dX7_pressPart_178 : decode cX7_pressPart 178 = .ok (.iload 8, 2) := by decide +kernel
theorem dX7_pressPart_180 : decode cX7_pressPart 180 = .ok (.ifCond .ge 9, 3) := by decide +kernel
theorem dX7_pressPart_183 : decode cX7_pressPart 183 = .ok (.iinc 7 1, 3) := by decide +kernel
theorem dX7_pressPart_186 : decode cX7_pressPart 186 = .ok (.goto (-109), 3) := by decide +kernel
theorem dX7_pressPart_189 : decode cX7_pressPart 189 = .ok (.aload_n 0, 1) := by decide +kernel
theorem dX7_pressPart_190 : decode cX7_pressPart 190 = .ok (.iload 6, 2) := by decide +kernel
theorem dX7_pressPart_192 : decode cX7_pressPart 192 = .ok (.iload 7, 2) := by decide +kernel
theorem dX7_pressPart_194 : decode cX7_pressPart 194 = .ok (.invokevirtual 89, 3) := by decide +kernel
theorem dX7_pressPart_197 : decode cX7_pressPart 197 = .ok (.iload 7, 2) := by decide +kernel
theorem dX7_pressPart_199 : decode cX7_pressPart 199 = .ok (.iload 8, 2) := by decide +kernel
theorem dX7_pressPart_201 : decode cX7_pressPart 201 = .ok (.isub, 1) := by decide +kernel
theorem dX7_pressPart_202 : decode cX7_pressPart 202 = .ok (.istore 9, 2) := by decide +kernel
theorem dX7_pressPart_204 : decode cX7_pressPart 204 = .ok (.iconst 0, 1) := by decide +kernel
theorem dX7_pressPart_205 : decode cX7_pressPart 205 = .ok (.istore 10, 2) := by decide +kernel
theorem dX7_pressPart_207 : decode cX7_pressPart 207 = .ok (.iload 7, 2) := by decide +kernel
theorem dX7_pressPart_209 : decode cX7_pressPart 209 = .ok (.iload 10, 2) := by decide +kernel
theorem dX7_pressPart_211 : decode cX7_pressPart 211 = .ok (.iadd, 1) := by decide +kernel
theorem dX7_pressPart_212 : decode cX7_pressPart 212 = .ok (.iload_n 2, 1) := by decide +kernel
theorem dX7_pressPart_213 : decode cX7_pressPart 213 = .ok (.if_icmp .ge 32, 3) := by decide +kernel
theorem dX7_pressPart_216 : decode cX7_pressPart 216 = .ok (.aload_n 0, 1) := by decide +kernel
theorem dX7_pressPart_217 : decode cX7_pressPart 217 = .ok (.getfield 7, 3) := by decide +kernel
theorem dX7_pressPart_220 : decode cX7_pressPart 220 = .ok (.iload 8, 2) := by decide +kernel
theorem dX7_pressPart_222 : decode cX7_pressPart 222 = .ok (.iload 10, 2) := by decide +kernel
theorem dX7_pressPart_224 : decode cX7_pressPart 224 = .ok (.iadd, 1) := by decide +kernel
theorem dX7_pressPart_225 : decode cX7_pressPart 225 = .ok (.baload, 1) := by decide +kernel
theorem dX7_pressPart_226 : decode cX7_pressPart 226 = .ok (.aload_n 0, 1) := by decide +kernel
theorem dX7_pressPart_227 : decode cX7_pressPart 227 = .ok (.getfield 7, 3) := by decide +kernel
theorem dX7_pressPart_230 : decode cX7_pressPart 230 = .ok (.iload 7, 2) := by decide +kernel
theorem dX7_pressPart_232 : decode cX7_pressPart 232 = .ok (.iload 10, 2) := by decide +kernel
theorem dX7_pressPart_234 : decode cX7_pressPart 234 = .ok (.iadd, 1) := by decide +kernel
theorem dX7_pressPart_235 : decode cX7_pressPart 235 = .ok (.baload, 1) := by decide +kernel
theorem dX7_pressPart_236 : decode cX7_pressPart 236 = .ok (.if_icmp .ne 9, 3) := by decide +kernel
theorem dX7_pressPart_239 : decode cX7_pressPart 239 = .ok (.iinc 10 1, 3) := by decide +kernel
theorem dX7_pressPart_242 : decode cX7_pressPart 242 = .ok (.goto (-35), 3) := by decide +kernel
theorem dX7_pressPart_245 : decode cX7_pressPart 245 = .ok (.iload 7, 2) := by decide +kernel
theorem dX7_pressPart_247 : decode cX7_pressPart 247 = .ok (.iload 10, 2) := by decide +kernel
theorem dX7_pressPart_249 : decode cX7_pressPart 249 = .ok (.iadd, 1) := by decide +kernel
theorem dX7_pressPart_250 : decode cX7_pressPart 250 = .ok (.istore 7, 2) := by decide +kernel
theorem dX7_pressPart_252 : decode cX7_pressPart 252 = .ok (.aload_n 0, 1) := by decide +kernel
theorem dX7_pressPart_253 : decode cX7_pressPart 253 = .ok (.iload 10, 2) := by decide +kernel
theorem dX7_pressPart_255 : decode cX7_pressPart 255 = .ok (.iload 9, 2) := by decide +kernel
theorem dX7_pressPart_257 : decode cX7_pressPart 257 = .ok (.invokevirtual 93, 3) := by decide +kernel
theorem dX7_pressPart_260 : decode cX7_pressPart 260 = .ok (.iload 7, 2) := by decide +kernel
theorem dX7_pressPart_262 : decode cX7_pressPart 262 = .ok (.istore 6, 2) := by decide +kernel
theorem dX7_pressPart_264 : decode cX7_pressPart 264 = .ok (.goto (-187), 3) := by decide +kernel
theorem dX7_pressPart_267 : decode cX7_pressPart 267 = .ok (.aload_n 0, 1) := by decide +kernel
theorem dX7_pressPart_268 : decode cX7_pressPart 268 = .ok (.iload 6, 2) := by decide +kernel
theorem dX7_pressPart_270 : decode cX7_pressPart 270 = .ok (.iload_n 2, 1) := by decide +kernel
theorem dX7_pressPart_271 : decode cX7_pressPart 271 = .ok (.invokevirtual 89, 3) := by decide +kernel
theorem dX7_pressPart_274 : decode cX7_pressPart 274 = .ok (.return_, 1) := by decide +kernel
theorem dX7_literal_0 : decode cX7_literal 0 = .ok (.iload_n 2, 1) := by decide +kernel
theorem dX7_literal_1 : decode cX7_literal 1 = .ok (.iload_n 1, 1) := by decide +kernel
theorem dX7_literal_2 : decode cX7_literal 2 = .ok (.isub, 1) := by decide +kernel
theorem dX7_literal_3 : decode cX7_literal 3 = .ok (.istore_n 3, 1) := by decide +kernel
theorem dX7_literal_4 : decode cX7_literal 4 = .ok (.iload_n 3, 1) := by decide +kernel
theorem dX7_literal_5 : decode cX7_literal 5 = .ok (.ifCond .ne 4, 3) := by decide +kernel
theorem dX7_literal_8 : decode cX7_literal 8 = .ok (.return_, 1) := by decide +kernel
theorem dX7_literal_9 : decode cX7_literal 9 = .ok (.iload_n 3, 1) := by decide +kernel
theorem dX7_literal_10 : decode cX7_literal 10 = .ok (.iconst 1, 1) := by decide +kernel
theorem dX7_literal_11 : decode cX7_literal 11 = .ok (.isub, 1) := by decide +kernel
theorem dX7_literal_12 : decode cX7_literal 12 = .ok (.istore 4, 2) := by decide +kernel
theorem dX7_literal_14 : decode cX7_literal 14 = .ok (.iload 4, 2) := by decide +kernel
theorem dX7_literal_16 : decode cX7_literal 16 = .ok (.bipush 60, 2) := by decide +kernel
theorem dX7_literal_18 : decode cX7_literal 18 = .ok (.if_icmp .ge 14, 3) := by decide +kernel
theorem dX7_literal_21 : decode cX7_literal 21 = .ok (.aload_n 0, 1) := by decide +kernel
theorem dX7_literal_22 : decode cX7_literal 22 = .ok (.iload 4, 2) := by decide +kernel
theorem dX7_literal_24 : decode cX7_literal 24 = .ok (.iconst 2, 1) := by decide +kernel
theorem dX7_literal_25 : decode cX7_literal 25 = .ok (.ishl, 1) := by decide +kernel
theorem dX7_literal_26 : decode cX7_literal 26 = .ok (.invokevirtual 79, 3) := by decide +kernel
theorem dX7_literal_29 : decode cX7_literal 29 = .ok (.goto 72, 3) := by decide +kernel
theorem dX7_literal_32 : decode cX7_literal 32 = .ok (.iload 4, 2) := by decide +kernel
theorem dX7_literal_34 : decode cX7_literal 34 = .ok (.sipush 256, 3) := by decide +kernel
theorem dX7_literal_37 : decode cX7_literal 37 = .ok (.if_icmp .ge 7, 3) := by decide +kernel
theorem dX7_literal_40 : decode cX7_literal 40 = .ok (.iconst 1, 1) := by decide +kernel
theorem dX7_literal_41 : decode cX7_literal 41 = .ok (.goto 15, 3) := by decide +kernel
theorem dX7_literal_44 : decode cX7_literal 44 = .ok (.iload 4, 2) := by decide +kernel
theorem dX7_literal_46 : decode cX7_literal 46 = .ok (.ldc 96, 2) := by decide +kernel
theorem dX7_literal_48 : decode cX7_literal 48 = .ok (.if_icmp .ge 7, 3) := by decide +kernel
theorem dX7_literal_51 : decode cX7_literal 51 = .ok (.iconst 2, 1) := by decide +kernel
theorem dX7_literal_52 : decode cX7_literal 52 = .ok (.goto 4, 3) := by decide +kernel
theorem dX7_literal_55 : decode cX7_literal 55 = .ok (.iconst 3, 1) := by decide +kernel
theorem dX7_literal_56 : decode cX7_literal 56 = .ok (.istore 5, 2) := by decide +kernel
theorem dX7_literal_58 : decode cX7_literal 58 = .ok (.aload_n 0, 1) := by decide +kernel
theorem dX7_literal_59 : decode cX7_literal 59 = .ok (.bipush 59, 2) := by decide +kernel
theorem dX7_literal_61 : decode cX7_literal 61 = .ok (.iload 5, 2) := by decide +kernel
theorem dX7_literal_63 : decode cX7_literal 63 = .ok (.iadd, 1) := by decide +kernel
theorem dX7_literal_64 : decode cX7_literal 64 = .ok (.iconst 2, 1) := by decide +kernel
theorem dX7_literal_65 : decode cX7_literal 65 = .ok (.ishl, 1) := by decide +kernel
theorem dX7_literal_66 : decode cX7_literal 66 = .ok (.invokevirtual 79, 3) := by decide +kernel
theorem dX7_literal_69 : decode cX7_literal 69 = .ok (.iconst 0, 1) := by decide +kernel
theorem dX7_literal_70 : decode cX7_literal 70 = .ok (.istore 6, 2) := by decide +kernel
theorem dX7_literal_72 : decode cX7_literal 72 = .ok (.iload 6, 2) := by decide +kernel
theorem dX7_literal_74 : decode cX7_literal 74 = .ok (.iload 5, 2) := by decide +kernel
theorem dX7_literal_76 : decode cX7_literal 76 = .ok (.if_icmp .ge 25, 3) := by decide +kernel
theorem dX7_literal_79 : decode cX7_literal 79 = .ok (.aload_n 0, 1) := by decide +kernel
theorem dX7_literal_80 : decode cX7_literal 80 = .ok (.iload 4, 2) := by decide +kernel
theorem dX7_literal_82 : decode cX7_literal 82 = .ok (.bipush 8, 2) := by decide +kernel
theorem dX7_literal_84 : decode cX7_literal 84 = .ok (.iload 6, 2) := by decide +kernel
theorem dX7_literal_86 : decode cX7_literal 86 = .ok (.imul, 1) := by decide +kernel
theorem dX7_literal_87 : decode cX7_literal 87 = .ok (.ishr, 1) := by decide +kernel
theorem dX7_literal_88 : decode cX7_literal 88 = .ok (.sipush 255, 3) := by decide +kernel
theorem dX7_literal_91 : decode cX7_literal 91 = .ok (.iand, 1) := by decide +kernel
theorem dX7_literal_92 : decode cX7_literal 92 = .ok (.invokevirtual 79, 3) := by decide +kernel
theorem dX7_literal_95 : decode cX7_literal 95 = .ok (.iinc 6 1, 3) := by decide +kernel
theorem dX7_literal_98 : decode cX7_literal 98 = .ok (.goto (-26), 3) := by decide +kernel
theorem dX7_literal_101 : decode cX7_literal 101 = .ok (.iload_n 1, 1) := by decide +kernel
theorem dX7_literal_102 : decode cX7_literal 102 = .ok (.istore 5, 2) := by decide +kernel
theorem dX7_literal_104 : decode cX7_literal 104 = .ok (.iload 5, 2) := by decide +kernel
theorem dX7_literal_106 : decode cX7_literal 106 = .ok (.iload_n 2, 1) := by decide +kernel
theorem dX7_literal_107 : decode cX7_literal 107 = .ok (.if_icmp .ge 20, 3) := by decide +kernel
theorem dX7_literal_110 : decode cX7_literal 110 = .ok (.aload_n 0, 1) := by decide +kernel
theorem dX7_literal_111 : decode cX7_literal 111 = .ok (.aload_n 0, 1) := by decide +kernel
theorem dX7_literal_112 : decode cX7_literal 112 = .ok (.getfield 7, 3) := by decide +kernel
theorem dX7_literal_115 : decode cX7_literal 115 = .ok (.iload 5, 2) := by decide +kernel
theorem dX7_literal_117 : decode cX7_literal 117 = .ok (.baload, 1) := by decide +kernel
theorem dX7_literal_118 : decode cX7_literal 118 = .ok (.invokevirtual 79, 3) := by decide +kernel
theorem dX7_literal_121 : decode cX7_literal 121 = .ok (.iinc 5 1, 3) := by decide +kernel
theorem dX7_literal_124 : decode cX7_literal 124 = .ok (.goto (-20), 3) := by decide +kernel
theorem dX7_literal_127 : decode cX7_literal 127 = .ok (.return_, 1) := by decide +kernel
theorem dX7_copyTwo_0 : decode cX7_copyTwo 0 = .ok (.aload_n 0, 1) := by decide +kernel
theorem dX7_copyTwo_1 : decode cX7_copyTwo 1 = .ok (.iload_n 1, 1) := by decide +kernel
theorem dX7_copyTwo_2 : decode cX7_copyTwo 2 = .ok (.iconst 1, 1) := by decide +kernel
theorem dX7_copyTwo_3 : decode cX7_copyTwo 3 = .ok (.isub, 1) := by decide +kernel
theorem dX7_copyTwo_4 : decode cX7_copyTwo 4 = .ok (.iconst 2, 1) := by decide +kernel
theorem dX7_copyTwo_5 : decode cX7_copyTwo 5 = .ok (.ishl, 1) := by decide +kernel
theorem dX7_copyTwo_6 : decode cX7_copyTwo 6 = .ok (.iconst 2, 1) := by decide +kernel
theorem dX7_copyTwo_7 : decode cX7_copyTwo 7 = .ok (.ior, 1) := by decide +kernel
theorem dX7_copyTwo_8 : decode cX7_copyTwo 8 = .ok (.invokevirtual 79, 3) := by decide +kernel
theorem dX7_copyTwo_11 : decode cX7_copyTwo 11 = .ok (.aload_n 0, 1) := by decide +kernel
theorem dX7_copyTwo_12 : decode cX7_copyTwo 12 = .ok (.iload_n 2, 1) := by decide +kernel
theorem dX7_copyTwo_13 : decode cX7_copyTwo 13 = .ok (.sipush 255, 3) := by decide +kernel
theorem dX7_copyTwo_16 : decode cX7_copyTwo 16 = .ok (.iand, 1) := by decide +kernel
theorem dX7_copyTwo_17 : decode cX7_copyTwo 17 = .ok (.invokevirtual 79, 3) := by decide +kernel
theorem dX7_copyTwo_20 : decode cX7_copyTwo 20 = .ok (.aload_n 0, 1) := by decide +kernel
theorem dX7_copyTwo_21 : decode cX7_copyTwo 21 = .ok (.iload_n 2, 1) := by decide +kernel
theorem dX7_copyTwo_22 : decode cX7_copyTwo 22 = .ok (.bipush 8, 2) := by decide +kernel
theorem dX7_copyTwo_24 : decode cX7_copyTwo 24 = .ok (.ishr, 1) := by decide +kernel
theorem dX7_copyTwo_25 : decode cX7_copyTwo 25 = .ok (.invokevirtual 79, 3) := by decide +kernel
theorem dX7_copyTwo_28 : decode cX7_copyTwo 28 = .ok (.return_, 1) := by decide +kernel
theorem dX7_copies_0 : decode cX7_copies 0 = .ok (.iload_n 1, 1) := by decide +kernel
theorem dX7_copies_1 : decode cX7_copies 1 = .ok (.istore_n 3, 1) := by decide +kernel
theorem dX7_copies_2 : decode cX7_copies 2 = .ok (.iload_n 3, 1) := by decide +kernel
theorem dX7_copies_3 : decode cX7_copies 3 = .ok (.bipush 68, 2) := by decide +kernel
theorem dX7_copies_5 : decode cX7_copies 5 = .ok (.if_icmp .lt 16, 3) := by decide +kernel
theorem dX7_copies_8 : decode cX7_copies 8 = .ok (.aload_n 0, 1) := by decide +kernel
theorem dX7_copies_9 : decode cX7_copies 9 = .ok (.bipush 64, 2) := by decide +kernel
theorem dX7_copies_11 : decode cX7_copies 11 = .ok (.iload_n 2, 1) := by decide +kernel
theorem dX7_copies_12 : decode cX7_copies 12 = .ok (.invokevirtual 97, 3) := by decide +kernel
theorem dX7_copies_15 : decode cX7_copies 15 = .ok (.iinc 3 (-64), 3) := by decide +kernel
theorem dX7_copies_18 : decode cX7_copies 18 = .ok (.goto (-16), 3) := by decide +kernel
theorem dX7_copies_21 : decode cX7_copies 21 = .ok (.iload_n 3, 1) := by decide +kernel
theorem dX7_copies_22 : decode cX7_copies 22 = .ok (.bipush 64, 2) := by decide +kernel
theorem dX7_copies_24 : decode cX7_copies 24 = .ok (.if_icmp .le 13, 3) := by decide +kernel
theorem dX7_copies_27 : decode cX7_copies 27 = .ok (.aload_n 0, 1) := by decide +kernel
theorem dX7_copies_28 : decode cX7_copies 28 = .ok (.bipush 60, 2) := by decide +kernel
theorem dX7_copies_30 : decode cX7_copies 30 = .ok (.iload_n 2, 1) := by decide +kernel
theorem dX7_copies_31 : decode cX7_copies 31 = .ok (.invokevirtual 97, 3) := by decide +kernel
theorem dX7_copies_34 : decode cX7_copies 34 = .ok (.iinc 3 (-60), 3) := by decide +kernel
theorem dX7_copies_37 : decode cX7_copies 37 = .ok (.iload_n 3, 1) := by decide +kernel
theorem dX7_copies_38 : decode cX7_copies 38 = .ok (.bipush 12, 2) := by decide +kernel
theorem dX7_copies_40 : decode cX7_copies 40 = .ok (.if_icmp .ge 40, 3) := by decide +kernel
theorem dX7_copies_43 : decode cX7_copies 43 = .ok (.iload_n 2, 1) := by decide +kernel
theorem dX7_copies_44 : decode cX7_copies 44 = .ok (.sipush 2048, 3) := by decide +kernel
theorem dX7_copies_47 : decode cX7_copies 47 = .ok (.if_icmp .ge 33, 3) := by decide +kernel
theorem dX7_copies_50 : decode cX7_copies 50 = .ok (.aload_n 0, 1) := by decide +kernel
theorem dX7_copies_51 : decode cX7_copies 51 = .ok (.iload_n 2, 1) := by decide +kernel
theorem dX7_copies_52 : decode cX7_copies 52 = .ok (.bipush 8, 2) := by decide +kernel
theorem dX7_copies_54 : decode cX7_copies 54 = .ok (.ishr, 1) := by decide +kernel
theorem dX7_copies_55 : decode cX7_copies 55 = .ok (.iconst 5, 1) := by decide +kernel
theorem dX7_copies_56 : decode cX7_copies 56 = .ok (.ishl, 1) := by decide +kernel
theorem dX7_copies_57 : decode cX7_copies 57 = .ok (.iload_n 3, 1) := by decide +kernel
theorem dX7_copies_58 : decode cX7_copies 58 = .ok (.iconst 4, 1) := by decide +kernel
theorem dX7_copies_59 : decode cX7_copies 59 = .ok (.isub, 1) := by decide +kernel
theorem dX7_copies_60 : decode cX7_copies 60 = .ok (.iconst 2, 1) := by decide +kernel
theorem dX7_copies_61 : decode cX7_copies 61 = .ok (.ishl, 1) := by decide +kernel
theorem dX7_copies_62 : decode cX7_copies 62 = .ok (.ior, 1) := by decide +kernel
theorem dX7_copies_63 : decode cX7_copies 63 = .ok (.iconst 1, 1) := by decide +kernel
theorem dX7_copies_64 : decode cX7_copies 64 = .ok (.ior, 1) := by decide +kernel
theorem dX7_copies_65 : decode cX7_copies 65 = .ok (.invokevirtual 79, 3) := by decide +kernel
theorem dX7_copies_68 : decode cX7_copies 68 = .ok (.aload_n 0, 1) := by decide +kernel
theorem dX7_copies_69 : decode cX7_copies 69 = .ok (.iload_n 2, 1) := by decide +kernel
theorem dX7_copies_70 : decode cX7_copies 70 = .ok (.sipush 255, 3) := by decide +kernel
theorem dX7_copies_73 : decode cX7_copies 73 = .ok (.iand, 1) := by decide +kernel
theorem dX7_copies_74 : decode cX7_copies 74 = .ok (.invokevirtual 79, 3) := by decide +kernel
theorem dX7_copies_77 : decode cX7_copies 77 = .ok (.goto 9, 3) := by decide +kernel
theorem dX7_copies_80 : decode cX7_copies 80 = .ok (.aload_n 0, 1) := by decide +kernel
theorem dX7_copies_81 : decode cX7_copies 81 = .ok (.iload_n 3, 1) := by decide +kernel
theorem dX7_copies_82 : decode cX7_copies 82 = .ok (.iload_n 2, 1) := by decide +kernel
theorem dX7_copies_83 : decode cX7_copies 83 = .ok (.invokevirtual 97, 3) := by decide +kernel
theorem dX7_copies_86 : decode cX7_copies 86 = .ok (.return_, 1) := by decide +kernel
theorem dX7_give_0 : decode cX7_give 0 = .ok (.iconst 0, 1) := by decide +kernel
theorem dX7_give_1 : decode cX7_give 1 = .ok (.istore_n 3, 1) := by decide +kernel
theorem dX7_give_2 : decode cX7_give 2 = .ok (.iload_n 3, 1) := by decide +kernel
theorem dX7_give_3 : decode cX7_give 3 = .ok (.iload_n 2, 1) := by decide +kernel
theorem dX7_give_4 : decode cX7_give 4 = .ok (.if_icmp .ge 18, 3) := by decide +kernel
theorem dX7_give_7 : decode cX7_give 7 = .ok (.aload_n 0, 1) := by decide +kernel
theorem dX7_give_8 : decode cX7_give 8 = .ok (.getfield 13, 3) := by decide +kernel
theorem dX7_give_11 : decode cX7_give 11 = .ok (.iload_n 3, 1) := by decide +kernel
theorem dX7_give_12 : decode cX7_give 12 = .ok (.aload_n 1, 1) := by decide +kernel
theorem dX7_give_13 : decode cX7_give 13 = .ok (.iload_n 3, 1) := by decide +kernel
theorem dX7_give_14 : decode cX7_give 14 = .ok (.baload, 1) := by decide +kernel
theorem dX7_give_15 : decode cX7_give 15 = .ok (.bastore, 1) := by decide +kernel
theorem dX7_give_16 : decode cX7_give 16 = .ok (.iinc 3 1, 3) := by decide +kernel
theorem dX7_give_19 : decode cX7_give 19 = .ok (.goto (-17), 3) := by decide +kernel
theorem dX7_give_22 : decode cX7_give 22 = .ok (.aload_n 0, 1) := by decide +kernel
theorem dX7_give_23 : decode cX7_give 23 = .ok (.iload_n 2, 1) := by decide +kernel
theorem dX7_give_24 : decode cX7_give 24 = .ok (.putfield 68, 3) := by decide +kernel
theorem dX7_give_27 : decode cX7_give 27 = .ok (.return_, 1) := by decide +kernel
theorem dX7_press_0 : decode cX7_press 0 = .ok (.aload_n 0, 1) := by decide +kernel
theorem dX7_press_1 : decode cX7_press 1 = .ok (.iconst 0, 1) := by decide +kernel
theorem dX7_press_2 : decode cX7_press 2 = .ok (.putfield 58, 3) := by decide +kernel
theorem dX7_press_5 : decode cX7_press 5 = .ok (.aload_n 0, 1) := by decide +kernel
theorem dX7_press_6 : decode cX7_press 6 = .ok (.iconst 0, 1) := by decide +kernel
theorem dX7_press_7 : decode cX7_press 7 = .ok (.putfield 76, 3) := by decide +kernel
theorem dX7_press_10 : decode cX7_press 10 = .ok (.aload_n 0, 1) := by decide +kernel
theorem dX7_press_11 : decode cX7_press 11 = .ok (.iconst 0, 1) := by decide +kernel
theorem dX7_press_12 : decode cX7_press 12 = .ok (.aload_n 0, 1) := by decide +kernel
theorem dX7_press_13 : decode cX7_press 13 = .ok (.getfield 61, 3) := by decide +kernel
theorem dX7_press_16 : decode cX7_press 16 = .ok (.invokevirtual 100, 3) := by decide +kernel
theorem dX7_press_19 : decode cX7_press 19 = .ok (.aload_n 0, 1) := by decide +kernel
theorem dX7_press_20 : decode cX7_press 20 = .ok (.aload_n 0, 1) := by decide +kernel
theorem dX7_press_21 : decode cX7_press 21 = .ok (.getfield 19, 3) := by decide +kernel
theorem dX7_press_24 : decode cX7_press 24 = .ok (.aload_n 0, 1) := by decide +kernel
theorem dX7_press_25 : decode cX7_press 25 = .ok (.getfield 76, 3) := by decide +kernel
theorem dX7_press_28 : decode cX7_press 28 = .ok (.invokevirtual 103, 3) := by decide +kernel
theorem dX7_press_31 : decode cX7_press 31 = .ok (.aload_n 0, 1) := by decide +kernel
theorem dX7_press_32 : decode cX7_press 32 = .ok (.getfield 68, 3) := by decide +kernel
theorem dX7_press_35 : decode cX7_press 35 = .ok (.ireturn, 1) := by decide +kernel
theorem dX7_bad_0 : decode cX7_bad 0 = .ok (.aload_n 0, 1) := by decide +kernel
theorem dX7_bad_1 : decode cX7_bad 1 = .ok (.getfield 107, 3) := by decide +kernel
theorem dX7_bad_4 : decode cX7_bad 4 = .ok (.ifCond .le 4, 3) := by decide +kernel
theorem dX7_bad_7 : decode cX7_bad 7 = .ok (.return_, 1) := by decide +kernel
theorem dX7_bad_8 : decode cX7_bad 8 = .ok (.aload_n 0, 1) := by decide +kernel
theorem dX7_bad_9 : decode cX7_bad 9 = .ok (.iload_n 1, 1) := by decide +kernel
theorem dX7_bad_10 : decode cX7_bad 10 = .ok (.putfield 107, 3) := by decide +kernel
theorem dX7_bad_13 : decode cX7_bad 13 = .ok (.aload_n 0, 1) := by decide +kernel
theorem dX7_bad_14 : decode cX7_bad 14 = .ok (.iload_n 2, 1) := by decide +kernel
theorem dX7_bad_15 : decode cX7_bad 15 = .ok (.putfield 110, 3) := by decide +kernel
theorem dX7_bad_18 : decode cX7_bad 18 = .ok (.return_, 1) := by decide +kernel
theorem dX7_openPart_0 : decode cX7_openPart 0 = .ok (.aload_n 0, 1) := by decide +kernel
theorem dX7_openPart_1 : decode cX7_openPart 1 = .ok (.iconst 0, 1) := by decide +kernel
theorem dX7_openPart_2 : decode cX7_openPart 2 = .ok (.putfield 107, 3) := by decide +kernel
theorem dX7_openPart_5 : decode cX7_openPart 5 = .ok (.aload_n 0, 1) := by decide +kernel
theorem dX7_openPart_6 : decode cX7_openPart 6 = .ok (.iconst (-1), 1) := by decide +kernel
theorem dX7_openPart_7 : decode cX7_openPart 7 = .ok (.putfield 110, 3) := by decide +kernel
theorem dX7_openPart_10 : decode cX7_openPart 10 = .ok (.aload_n 0, 1) := by decide +kernel
theorem dX7_openPart_11 : decode cX7_openPart 11 = .ok (.iconst 0, 1) := by decide +kernel
theorem dX7_openPart_12 : decode cX7_openPart 12 = .ok (.putfield 113, 3) := by decide +kernel
theorem dX7_openPart_15 : decode cX7_openPart 15 = .ok (.aload_n 0, 1) := by decide +kernel
theorem dX7_openPart_16 : decode cX7_openPart 16 = .ok (.iconst 0, 1) := by decide +kernel
theorem dX7_openPart_17 : decode cX7_openPart 17 = .ok (.putfield 116, 3) := by decide +kernel
theorem dX7_openPart_20 : decode cX7_openPart 20 = .ok (.aload_n 0, 1) := by decide +kernel
theorem dX7_openPart_21 : decode cX7_openPart 21 = .ok (.getfield 119, 3) := by decide +kernel
theorem dX7_openPart_24 : decode cX7_openPart 24 = .ok (.istore_n 3, 1) := by decide +kernel
theorem dX7_openPart_25 : decode cX7_openPart 25 = .ok (.lconst 0, 1) := by decide +kernel
theorem dX7_openPart_26 : decode cX7_openPart 26 = .ok (.lstore 4, 2) := by decide +kernel
theorem dX7_openPart_28 : decode cX7_openPart 28 = .ok (.iload_n 1, 1) := by decide +kernel
theorem dX7_openPart_29 : decode cX7_openPart 29 = .ok (.istore 6, 2) := by decide +kernel
theorem dX7_openPart_31 : decode cX7_openPart 31 = .ok (.iconst 1, 1) := by decide +kernel
theorem dX7_openPart_32 : decode cX7_openPart 32 = .ok (.istore 7, 2) := by decide +kernel
theorem dX7_openPart_34 : decode cX7_openPart 34 = .ok (.iconst 0, 1) := by decide +kernel
theorem dX7_openPart_35 : decode cX7_openPart 35 = .ok (.istore 8, 2) := by decide +kernel
theorem dX7_openPart_37 : decode cX7_openPart 37 = .ok (.iload 8, 2) := by decide +kernel
theorem dX7_openPart_39 : decode cX7_openPart 39 = .ok (.iconst 5, 1) := by decide +kernel
theorem dX7_openPart_40 : decode cX7_openPart 40 = .ok (.if_icmp .ge 69, 3) := by decide +kernel
theorem dX7_openPart_43 : decode cX7_openPart 43 = .ok (.iload 7, 2) := by decide +kernel
theorem dX7_openPart_45 : decode cX7_openPart 45 = .ok (.ifCond .eq 64, 3) := by decide +kernel
theorem dX7_openPart_48 : decode cX7_openPart 48 = .ok (.iload 6, 2) := by decide +kernel
theorem dX7_openPart_50 : decode cX7_openPart 50 = .ok (.iload_n 2, 1) := by decide +kernel
theorem dX7_openPart_51 : decode cX7_openPart 51 = .ok (.if_icmp .ne 10, 3) := by decide +kernel
theorem dX7_openPart_54 : decode cX7_openPart 54 = .ok (.aload_n 0, 1) := by decide +kernel
theorem dX7_openPart_55 : decode cX7_openPart 55 = .ok (.iconst 1, 1) := by decide +kernel
theorem dX7_openPart_56 : decode cX7_openPart 56 = .ok (.iconst 0, 1) := by decide +kernel
theorem dX7_openPart_57 : decode cX7_openPart 57 = .ok (.invokevirtual 122, 3) := by decide +kernel
theorem dX7_openPart_60 : decode cX7_openPart 60 = .ok (.return_, 1) := by decide +kernel
theorem dX7_openPart_61 : decode cX7_openPart 61 = .ok (.lload 4, 2) := by decide +kernel
theorem dX7_openPart_63 : decode cX7_openPart 63 = .ok (.aload_n 0, 1) := by decide +kernel
theorem dX7_openPart_64 : decode cX7_openPart 64 = .ok (.iload 6, 2) := by decide +kernel
theorem dX7_openPart_66 : decode cX7_openPart 66 = .ok (.invokevirtual 71, 3) := by decide +kernel
theorem dX7_openPart_69 : decode cX7_openPart 69 = .ok (.bipush 127, 2) := by decide +kernel
theorem dX7_openPart_71 : decode cX7_openPart 71 = .ok (.iand, 1) := by decide +kernel
theorem dX7_openPart_72 : decode cX7_openPart 72 = .ok (.i2l, 1) := by decide +kernel
theorem dX7_openPart_73 : decode cX7_openPart 73 = .ok (.bipush 7, 2) := by decide +kernel
theorem dX7_openPart_75 : decode cX7_openPart 75 = .ok (.iload 8, 2) := by decide +kernel
theorem dX7_openPart_77 : decode cX7_openPart 77 = .ok (.imul, 1) := by decide +kernel
theorem dX7_openPart_78 : decode cX7_openPart 78 = .ok (.lshl, 1) := by decide +kernel
theorem dX7_openPart_79 : decode cX7_openPart 79 = .ok (.lor, 1) := by decide +kernel
theorem dX7_openPart_80 : decode cX7_openPart 80 = .ok (.lstore 4, 2) := by decide +kernel
theorem dX7_openPart_82 : decode cX7_openPart 82 = .ok (.aload_n 0, 1) := by decide +kernel
theorem dX7_openPart_83 : decode cX7_openPart 83 = .ok (.iload 6, 2) := by decide +kernel
theorem dX7_openPart_85 : decode cX7_openPart 85 = .ok (.invokevirtual 71, 3) := by decide +kernel
theorem dX7_openPart_88 : decode cX7_openPart 88 = .ok (.bipush 127, 2) := by decide +kernel
theorem dX7_openPart_90 : decode cX7_openPart 90 = .ok (.if_icmp .le 7, 3) := by decide +kernel
theorem dX7_openPart_93 : decode cX7_openPart 93 = .ok (.iconst 1, 1) := by decide +kernel
theorem dX7_openPart_94 : decode cX7_openPart 94 = .ok (.goto 4, 3) := by decide +kernel
theorem dX7_openPart_97 : decode cX7_openPart 97 = .ok (.iconst 0, 1) := by decide +kernel
theorem dX7_openPart_98 : decode cX7_openPart 98 = .ok (.istore 7, 2) := by decide +kernel
theorem dX7_openPart_100 : decode cX7_openPart 100 = .ok (.iinc 6 1, 3) := by decide +kernel
theorem dX7_openPart_103 : decode cX7_openPart 103 = .ok (.iinc 8 1, 3) := by decide +kernel
theorem dX7_openPart_106 : decode cX7_openPart 106 = .ok (.goto (-69), 3) := by decide +kernel
theorem dX7_openPart_109 : decode cX7_openPart 109 = .ok (.iload 7, 2) := by decide +kernel
theorem dX7_openPart_111 : decode cX7_openPart 111 = .ok (.ifCond .ne 13, 3) := by decide +kernel
theorem dX7_openPart_114 : decode cX7_openPart 114 = .ok (.lload 4, 2) := by decide +kernel
theorem dX7_openPart_116 : decode cX7_openPart 116 = .ok (.bipush 32, 2) := by decide +kernel
theorem dX7_openPart_118 : decode cX7_openPart 118 = .ok (.lshr, 1) := by decide +kernel
theorem dX7_openPart_119 : decode cX7_openPart 119 = .ok (.lconst 0, 1) := by decide +kernel
theorem dX7_openPart_120 : decode cX7_openPart 120 = .ok (.lcmp, 1) := by decide +kernel
theorem dX7_openPart_121 : decode cX7_openPart 121 = .ok (.ifCond .eq 10, 3) := by decide +kernel
theorem dX7_openPart_124 : decode cX7_openPart 124 = .ok (.aload_n 0, 1) := by decide +kernel
theorem dX7_openPart_125 : decode cX7_openPart 125 = .ok (.iconst 1, 1) := by decide +kernel
theorem dX7_openPart_126 : decode cX7_openPart 126 = .ok (.iconst 0, 1) := by decide +kernel
theorem dX7_openPart_127 : decode cX7_openPart 127 = .ok (.invokevirtual 122, 3) := by decide +kernel
theorem dX7_openPart_130 : decode cX7_openPart 130 = .ok (.return_, 1) := by decide +kernel
theorem dX7_openPart_131 : decode cX7_openPart 131 = .ok (.lload 4, 2) := by decide +kernel
theorem dX7_openPart_133 : decode cX7_openPart 133 = .ok (.ldc2_w 125, 3) := by decide +kernel
theorem dX7_openPart_136 : decode cX7_openPart 136 = .ok (.lcmp, 1) := by decide +kernel
theorem dX7_openPart_137 : decode cX7_openPart 137 = .ok (.ifCond .le 10, 3) := by decide +kernel
theorem dX7_openPart_140 : decode cX7_openPart 140 = .ok (.aload_n 0, 1) := by decide +kernel
theorem dX7_openPart_141 : decode cX7_openPart 141 = .ok (.iconst 2, 1) := by decide +kernel
theorem dX7_openPart_142 : decode cX7_openPart 142 = .ok (.iconst 0, 1) := by decide +kernel
theorem dX7_openPart_143 : decode cX7_openPart 143 = .ok (.invokevirtual 122, 3) := by decide +kernel
theorem dX7_openPart_146 : decode cX7_openPart 146 = .ok (.return_, 1) := by decide +kernel
theorem dX7_openPart_147 : decode cX7_openPart 147 = .ok (.aload_n 0, 1) := by decide +kernel
theorem dX7_openPart_148 : decode cX7_openPart 148 = .ok (.lload 4, 2) := by decide +kernel
theorem dX7_openPart_150 : decode cX7_openPart 150 = .ok (.l2i, 1) := by decide +kernel
theorem dX7_openPart_151 : decode cX7_openPart 151 = .ok (.putfield 127, 3) := by decide +kernel
theorem dX7_openPart_154 : decode cX7_openPart 154 = .ok (.iload 6, 2) := by decide +kernel
theorem dX7_openPart_156 : decode cX7_openPart 156 = .ok (.iload_n 2, 1) := by decide +kernel
theorem dX7_openPart_157 : decode cX7_openPart 157 = .ok (.if_icmp .ge 24, 3) := by decide +kernel
theorem dX7_openPart_160 : decode cX7_openPart 160 = .ok (.aload_n 0, 1) := by decide +kernel
theorem dX7_openPart_161 : decode cX7_openPart 161 = .ok (.getfield 107, 3) := by decide +kernel
theorem dX7_openPart_164 : decode cX7_openPart 164 = .ok (.ifCond .ne 17, 3) := by decide +kernel
theorem dX7_openPart_167 : decode cX7_openPart 167 = .ok (.aload_n 0, 1) := by decide +kernel
theorem dX7_openPart_168 : decode cX7_openPart 168 = .ok (.iload 6, 2) := by decide +kernel
theorem dX7_openPart_170 : decode cX7_openPart 170 = .ok (.iload_n 1, 1) := by decide +kernel
theorem dX7_openPart_171 : decode cX7_openPart 171 = .ok (.iload_n 2, 1) := by decide +kernel
theorem dX7_openPart_172 : decode cX7_openPart 172 = .ok (.iload_n 3, 1) := by decide +kernel
theorem dX7_openPart_173 : decode cX7_openPart 173 = .ok (.invokevirtual 130, 3) := by decide +kernel
theorem dX7_openPart_176 : decode cX7_openPart 176 = .ok (.istore 6, 2) := by decide +kernel
theorem dX7_openPart_178 : decode cX7_openPart 178 = .ok (.goto (-24), 3) := by decide +kernel
theorem dX7_openPart_181 : decode cX7_openPart 181 = .ok (.aload_n 0, 1) := by decide +kernel
theorem dX7_openPart_182 : decode cX7_openPart 182 = .ok (.getfield 107, 3) := by decide +kernel
theorem dX7_openPart_185 : decode cX7_openPart 185 = .ok (.ifCond .ne 25, 3) := by decide +kernel
theorem dX7_openPart_188 : decode cX7_openPart 188 = .ok (.aload_n 0, 1) := by decide +kernel
theorem dX7_openPart_189 : decode cX7_openPart 189 = .ok (.getfield 119, 3) := by decide +kernel
theorem dX7_openPart_192 : decode cX7_openPart 192 = .ok (.iload_n 3, 1) := by decide +kernel
theorem dX7_openPart_193 : decode cX7_openPart 193 = .ok (.isub, 1) := by decide +kernel
theorem dX7_openPart_194 : decode cX7_openPart 194 = .ok (.aload_n 0, 1) := by decide +kernel
theorem dX7_openPart_195 : decode cX7_openPart 195 = .ok (.getfield 127, 3) := by decide +kernel
theorem dX7_openPart_198 : decode cX7_openPart 198 = .ok (.if_icmp .ge 12, 3) := by decide +kernel
theorem dX7_openPart_201 : decode cX7_openPart 201 = .ok (.aload_n 0, 1) := by decide +kernel
theorem dX7_openPart_202 : decode cX7_openPart 202 = .ok (.bipush 6, 2) := by decide +kernel
theorem dX7_openPart_204 : decode cX7_openPart 204 = .ok (.iload_n 2, 1) := by decide +kernel
theorem dX7_openPart_205 : decode cX7_openPart 205 = .ok (.iload_n 1, 1) := by decide +kernel
theorem dX7_openPart_206 : decode cX7_openPart 206 = .ok (.isub, 1) := by decide +kernel
theorem dX7_openPart_207 : decode cX7_openPart 207 = .ok (.invokevirtual 122, 3) := by decide +kernel
theorem dX7_openPart_210 : decode cX7_openPart 210 = .ok (.return_, 1) := by decide +kernel
theorem dX7_elementAt_0 : decode cX7_elementAt 0 = .ok (.aload_n 0, 1) := by decide +kernel
theorem dX7_elementAt_1 : decode cX7_elementAt 1 = .ok (.iload_n 1, 1) := by decide +kernel
theorem dX7_elementAt_2 : decode cX7_elementAt 2 = .ok (.invokevirtual 71, 3) := by decide +kernel
theorem dX7_elementAt_5 : decode cX7_elementAt 5 = .ok (.istore 5, 2) := by decide +kernel
theorem dX7_elementAt_7 : decode cX7_elementAt 7 = .ok (.iload 5, 2) := by decide +kernel
theorem dX7_elementAt_9 : decode cX7_elementAt 9 = .ok (.iconst 3, 1) := by decide +kernel
theorem dX7_elementAt_10 : decode cX7_elementAt 10 = .ok (.iand, 1) := by decide +kernel
theorem dX7_elementAt_11 : decode cX7_elementAt 11 = .ok (.istore 6, 2) := by decide +kernel
theorem dX7_elementAt_13 : decode cX7_elementAt 13 = .ok (.iload 5, 2) := by decide +kernel
theorem dX7_elementAt_15 : decode cX7_elementAt 15 = .ok (.iconst 2, 1) := by decide +kernel
theorem dX7_elementAt_16 : decode cX7_elementAt 16 = .ok (.ishr, 1) := by decide +kernel
theorem dX7_elementAt_17 : decode cX7_elementAt 17 = .ok (.istore 7, 2) := by decide +kernel
theorem dX7_elementAt_19 : decode cX7_elementAt 19 = .ok (.iload 6, 2) := by decide +kernel
theorem dX7_elementAt_21 : decode cX7_elementAt 21 = .ok (.ifCond .ne 22, 3) := by decide +kernel
theorem dX7_elementAt_24 : decode cX7_elementAt 24 = .ok (.iload 7, 2) := by decide +kernel
theorem dX7_elementAt_26 : decode cX7_elementAt 26 = .ok (.bipush 60, 2) := by decide +kernel
theorem dX7_elementAt_28 : decode cX7_elementAt 28 = .ok (.if_icmp .ge 7, 3) := by decide +kernel
theorem dX7_elementAt_31 : decode cX7_elementAt 31 = .ok (.iconst 0, 1) := by decide +kernel
theorem dX7_elementAt_32 : decode cX7_elementAt 32 = .ok (.goto 32, 3) := by decide +kernel
theorem dX7_elementAt_35 : decode cX7_elementAt 35 = .ok (.iload 7, 2) := by decide +kernel
theorem dX7_elementAt_37 : decode cX7_elementAt 37 = .ok (.bipush 59, 2) := by decide +kernel
theorem dX7_elementAt_39 : decode cX7_elementAt 39 = .ok (.isub, 1) := by decide +kernel
theorem dX7_elementAt_40 : decode cX7_elementAt 40 = .ok (.goto 24, 3) := by decide +kernel
theorem dX7_elementAt_43 : decode cX7_elementAt 43 = .ok (.iload 6, 2) := by decide +kernel
theorem dX7_elementAt_45 : decode cX7_elementAt 45 = .ok (.iconst 1, 1) := by decide +kernel
theorem dX7_elementAt_46 : decode cX7_elementAt 46 = .ok (.if_icmp .ne 7, 3) := by decide +kernel
theorem dX7_elementAt_49 : decode cX7_elementAt 49 = .ok (.iconst 1, 1) := by decide +kernel
theorem dX7_elementAt_50 : decode cX7_elementAt 50 = .ok (.goto 14, 3) := by decide +kernel
theorem dX7_elementAt_53 : decode cX7_elementAt 53 = .ok (.iload 6, 2) := by decide +kernel
theorem dX7_elementAt_55 : decode cX7_elementAt 55 = .ok (.iconst 2, 1) := by decide +kernel
theorem dX7_elementAt_56 : decode cX7_elementAt 56 = .ok (.if_icmp .ne 7, 3) := by decide +kernel
theorem dX7_elementAt_59 : decode cX7_elementAt 59 = .ok (.iconst 2, 1) := by decide +kernel
theorem dX7_elementAt_60 : decode cX7_elementAt 60 = .ok (.goto 4, 3) := by decide +kernel
theorem dX7_elementAt_63 : decode cX7_elementAt 63 = .ok (.iconst 4, 1) := by decide +kernel
theorem dX7_elementAt_64 : decode cX7_elementAt 64 = .ok (.istore 8, 2) := by decide +kernel
theorem dX7_elementAt_66 : decode cX7_elementAt 66 = .ok (.iload_n 3, 1) := by decide +kernel
theorem dX7_elementAt_67 : decode cX7_elementAt 67 = .ok (.iload_n 1, 1) := by decide +kernel
theorem dX7_elementAt_68 : decode cX7_elementAt 68 = .ok (.isub, 1) := by decide +kernel
theorem dX7_elementAt_69 : decode cX7_elementAt 69 = .ok (.iconst 1, 1) := by decide +kernel
theorem dX7_elementAt_70 : decode cX7_elementAt 70 = .ok (.isub, 1) := by decide +kernel
theorem dX7_elementAt_71 : decode cX7_elementAt 71 = .ok (.iload 8, 2) := by decide +kernel
theorem dX7_elementAt_73 : decode cX7_elementAt 73 = .ok (.if_icmp .ge 13, 3) := by decide +kernel
theorem dX7_elementAt_76 : decode cX7_elementAt 76 = .ok (.aload_n 0, 1) := by decide +kernel
theorem dX7_elementAt_77 : decode cX7_elementAt 77 = .ok (.iconst 3, 1) := by decide +kernel
theorem dX7_elementAt_78 : decode cX7_elementAt 78 = .ok (.iload_n 1, 1) := by decide +kernel
theorem dX7_elementAt_79 : decode cX7_elementAt 79 = .ok (.iload_n 2, 1) := by decide +kernel
theorem dX7_elementAt_80 : decode cX7_elementAt 80 = .ok (.isub, 1) := by decide +kernel
theorem dX7_elementAt_81 : decode cX7_elementAt 81 = .ok (.invokevirtual 122, 3) := by decide +kernel
theorem dX7_elementAt_84 : decode cX7_elementAt 84 = .ok (.iload_n 1, 1) := by decide +kernel
theorem dX7_elementAt_85 : decode cX7_elementAt 85 = .ok (.ireturn, 1) := by decide +kernel
theorem dX7_elementAt_86 : decode cX7_elementAt 86 = .ok (.lconst 0, 1) := by decide +kernel
theorem dX7_elementAt_87 : decode cX7_elementAt 87 = .ok (.lstore 9, 2) := by decide +kernel
theorem dX7_elementAt_89 : decode cX7_elementAt 89 = .ok (.iconst 0, 1) := by decide +kernel
theorem dX7_elementAt_90 : decode cX7_elementAt 90 = .ok (.istore 11, 2) := by decide +kernel
theorem dX7_elementAt_92 : decode cX7_elementAt 92 = .ok (.iload 11, 2) := by decide +kernel
theorem dX7_elementAt_94 : decode cX7_elementAt 94 = .ok (.iload 8, 2) := by decide +kernel
theorem dX7_elementAt_96 : decode cX7_elementAt 96 = .ok (.if_icmp .ge 31, 3) := by decide +kernel
theorem dX7_elementAt_99 : decode cX7_elementAt 99 = .ok (.lload 9, 2) := by decide +kernel
theorem dX7_elementAt_101 : decode cX7_elementAt 101 = .ok (.aload_n 0, 1) := by decide +kernel
theorem dX7_elementAt_102 : decode cX7_elementAt 102 = .ok (.iload_n 1, 1) := by decide +kernel
theorem dX7_elementAt_103 : decode cX7_elementAt 103 = .ok (.iconst 1, 1) := by decide +kernel
theorem dX7_elementAt_104 : decode cX7_elementAt 104 = .ok (.iadd, 1) := by decide +kernel
theorem dX7_elementAt_105 : decode cX7_elementAt 105 = .ok (.iload 11, 2) := by decide +kernel
theorem dX7_elementAt_107 : decode cX7_elementAt 107 = .ok (.iadd, 1) := by decide +kernel
theorem dX7_elementAt_108 : decode cX7_elementAt 108 = .ok (.invokevirtual 71, 3) := by decide +kernel
theorem dX7_elementAt_111 : decode cX7_elementAt 111 = .ok (.i2l, 1) := by decide +kernel
theorem dX7_elementAt_112 : decode cX7_elementAt 112 = .ok (.bipush 8, 2) := by decide +kernel
theorem dX7_elementAt_114 : decode cX7_elementAt 114 = .ok (.iload 11, 2) := by decide +kernel
theorem dX7_elementAt_116 : decode cX7_elementAt 116 = .ok (.imul, 1) := by decide +kernel
theorem dX7_elementAt_117 : decode cX7_elementAt 117 = .ok (.lshl, 1) := by decide +kernel
theorem dX7_elementAt_118 : decode cX7_elementAt 118 = .ok (.lor, 1) := by decide +kernel
theorem dX7_elementAt_119 : decode cX7_elementAt 119 = .ok (.lstore 9, 2) := by decide +kernel
theorem dX7_elementAt_121 : decode cX7_elementAt 121 = .ok (.iinc 11 1, 3) := by decide +kernel
theorem dX7_elementAt_124 : decode cX7_elementAt 124 = .ok (.goto (-32), 3) := by decide +kernel
theorem dX7_elementAt_127 : decode cX7_elementAt 127 = .ok (.iload_n 1, 1) := by decide +kernel
theorem dX7_elementAt_128 : decode cX7_elementAt 128 = .ok (.iconst 1, 1) := by decide +kernel
theorem dX7_elementAt_129 : decode cX7_elementAt 129 = .ok (.iadd, 1) := by decide +kernel
theorem dX7_elementAt_130 : decode cX7_elementAt 130 = .ok (.iload 8, 2) := by decide +kernel
theorem dX7_elementAt_132 : decode cX7_elementAt 132 = .ok (.iadd, 1) := by decide +kernel
theorem dX7_elementAt_133 : decode cX7_elementAt 133 = .ok (.istore 11, 2) := by decide +kernel
theorem dX7_elementAt_135 : decode cX7_elementAt 135 = .ok (.iload 6, 2) := by decide +kernel
theorem dX7_elementAt_137 : decode cX7_elementAt 137 = .ok (.ifCond .ne 25, 3) := by decide +kernel
theorem dX7_elementAt_140 : decode cX7_elementAt 140 = .ok (.iload 7, 2) := by decide +kernel
theorem dX7_elementAt_142 : decode cX7_elementAt 142 = .ok (.bipush 60, 2) := by decide +kernel
theorem dX7_elementAt_144 : decode cX7_elementAt 144 = .ok (.if_icmp .ge 11, 3) := by decide +kernel
theorem dX7_elementAt_147 : decode cX7_elementAt 147 = .ok (.iload 7, 2) := by decide +kernel
theorem dX7_elementAt_149 : decode cX7_elementAt 149 = .ok (.i2l, 1) := by decide +kernel
theorem dX7_elementAt_150 : decode cX7_elementAt 150 = .ok (.lconst 1, 1) := by decide +kernel
theorem dX7_elementAt_151 : decode cX7_elementAt 151 = .ok (.ladd, 1) := by decide +kernel
theorem dX7_elementAt_152 : decode cX7_elementAt 152 = .ok (.goto 34, 3) := by decide +kernel
theorem dX7_elementAt_155 : decode cX7_elementAt 155 = .ok (.lload 9, 2) := by decide +kernel
theorem dX7_elementAt_157 : decode cX7_elementAt 157 = .ok (.lconst 1, 1) := by decide +kernel
theorem dX7_elementAt_158 : decode cX7_elementAt 158 = .ok (.ladd, 1) := by decide +kernel
theorem dX7_elementAt_159 : decode cX7_elementAt 159 = .ok (.goto 27, 3) := by decide +kernel
theorem dX7_elementAt_162 : decode cX7_elementAt 162 = .ok (.iload 6, 2) := by decide +kernel
theorem dX7_elementAt_164 : decode cX7_elementAt 164 = .ok (.iconst 1, 1) := by decide +kernel
theorem dX7_elementAt_165 : decode cX7_elementAt 165 = .ok (.if_icmp .ne 16, 3) := by decide +kernel
theorem dX7_elementAt_168 : decode cX7_elementAt 168 = .ok (.iload 7, 2) := by decide +kernel
theorem dX7_elementAt_170 : decode cX7_elementAt 170 = .ok (.bipush 7, 2) := by decide +kernel
theorem dX7_elementAt_172 : decode cX7_elementAt 172 = .ok (.iand, 1) := by decide +kernel
theorem dX7_elementAt_173 : decode cX7_elementAt 173 = .ok (.i2l, 1) := by decide +kernel
theorem dX7_elementAt_174 : decode cX7_elementAt 174 = .ok (.ldc2_w 134, 3) := by decide +kernel
theorem dX7_elementAt_177 : decode cX7_elementAt 177 = .ok (.ladd, 1) := by decide +kernel
theorem dX7_elementAt_178 : decode cX7_elementAt 178 = .ok (.goto 8, 3) := by decide +kernel
theorem dX7_elementAt_181 : decode cX7_elementAt 181 = .ok (.iload 7, 2) := by decide +kernel
theorem dX7_elementAt_183 : decode cX7_elementAt 183 = .ok (.i2l, 1) := by decide +kernel
theorem dX7_elementAt_184 : decode cX7_elementAt 184 = .ok (.lconst 1, 1) := by decide +kernel
theorem dX7_elementAt_185 : decode cX7_elementAt 185 = .ok (.ladd, 1) := by decide +kernel
theorem dX7_elementAt_186 : decode cX7_elementAt 186 = .ok (.lstore 12, 2) := by decide +kernel
theorem dX7_elementAt_188 : decode cX7_elementAt 188 = .ok (.iload 6, 2) := by decide +kernel
theorem dX7_elementAt_190 : decode cX7_elementAt 190 = .ok (.ifCond .ne 7, 3) := by decide +kernel
theorem dX7_elementAt_193 : decode cX7_elementAt 193 = .ok (.lconst 0, 1) := by decide +kernel
theorem dX7_elementAt_194 : decode cX7_elementAt 194 = .ok (.goto 26, 3) := by decide +kernel
theorem dX7_elementAt_197 : decode cX7_elementAt 197 = .ok (.iload 6, 2) := by decide +kernel
theorem dX7_elementAt_199 : decode cX7_elementAt 199 = .ok (.iconst 1, 1) := by decide +kernel
theorem dX7_elementAt_200 : decode cX7_elementAt 200 = .ok (.if_icmp .ne 18, 3) := by decide +kernel
theorem dX7_elementAt_203 : decode cX7_elementAt 203 = .ok (.iload 7, 2) := by decide +kernel
theorem dX7_elementAt_205 : decode cX7_elementAt 205 = .ok (.iconst 3, 1) := by decide +kernel
theorem dX7_elementAt_206 : decode cX7_elementAt 206 = .ok (.ishr, 1) := by decide +kernel
theorem dX7_elementAt_207 : decode cX7_elementAt 207 = .ok (.i2l, 1) := by decide +kernel
theorem dX7_elementAt_208 : decode cX7_elementAt 208 = .ok (.ldc2_w 136, 3) := by decide +kernel
theorem dX7_elementAt_211 : decode cX7_elementAt 211 = .ok (.lmul, 1) := by decide +kernel
theorem dX7_elementAt_212 : decode cX7_elementAt 212 = .ok (.lload 9, 2) := by decide +kernel
theorem dX7_elementAt_214 : decode cX7_elementAt 214 = .ok (.ladd, 1) := by decide +kernel
theorem dX7_elementAt_215 : decode cX7_elementAt 215 = .ok (.goto 5, 3) := by decide +kernel
theorem dX7_elementAt_218 : decode cX7_elementAt 218 = .ok (.lload 9, 2) := by decide +kernel
theorem dX7_elementAt_220 : decode cX7_elementAt 220 = .ok (.lstore 14, 2) := by decide +kernel
theorem dX7_elementAt_222 : decode cX7_elementAt 222 = .ok (.iload 6, 2) := by decide +kernel
theorem dX7_elementAt_224 : decode cX7_elementAt 224 = .ok (.ifCond .ne 24, 3) := by decide +kernel
theorem dX7_elementAt_227 : decode cX7_elementAt 227 = .ok (.iload_n 3, 1) := by decide +kernel
theorem dX7_elementAt_228 : decode cX7_elementAt 228 = .ok (.iload 11, 2) := by decide +kernel
theorem dX7_elementAt_230 : decode cX7_elementAt 230 = .ok (.isub, 1) := by decide +kernel
theorem dX7_elementAt_231 : decode cX7_elementAt 231 = .ok (.i2l, 1) := by decide +kernel
theorem dX7_elementAt_232 : decode cX7_elementAt 232 = .ok (.lload 12, 2) := by decide +kernel
theorem dX7_elementAt_234 : decode cX7_elementAt 234 = .ok (.lcmp, 1) := by decide +kernel
theorem dX7_elementAt_235 : decode cX7_elementAt 235 = .ok (.ifCond .ge 13, 3) := by decide +kernel
theorem dX7_elementAt_238 : decode cX7_elementAt 238 = .ok (.aload_n 0, 1) := by decide +kernel
theorem dX7_elementAt_239 : decode cX7_elementAt 239 = .ok (.iconst 3, 1) := by decide +kernel
theorem dX7_elementAt_240 : decode cX7_elementAt 240 = .ok (.iload_n 1, 1) := by decide +kernel
theorem dX7_elementAt_241 : decode cX7_elementAt 241 = .ok (.iload_n 2, 1) := by decide +kernel
theorem dX7_elementAt_242 : decode cX7_elementAt 242 = .ok (.isub, 1) := by decide +kernel
theorem dX7_elementAt_243 : decode cX7_elementAt 243 = .ok (.invokevirtual 122, 3) := by decide +kernel
theorem dX7_elementAt_246 : decode cX7_elementAt 246 = .ok (.iload_n 1, 1) := by decide +kernel
theorem dX7_elementAt_247 : decode cX7_elementAt 247 = .ok (.ireturn, 1) := by decide +kernel
theorem dX7_elementAt_248 : decode cX7_elementAt 248 = .ok (.iload 6, 2) := by decide +kernel
theorem dX7_elementAt_250 : decode cX7_elementAt 250 = .ok (.ifCond .le 34, 3) := by decide +kernel
theorem dX7_elementAt_253 : decode cX7_elementAt 253 = .ok (.lload 14, 2) := by decide +kernel
theorem dX7_elementAt_255 : decode cX7_elementAt 255 = .ok (.lconst 0, 1) := by decide +kernel
theorem dX7_elementAt_256 : decode cX7_elementAt 256 = .ok (.lcmp, 1) := by decide +kernel
theorem dX7_elementAt_257 : decode cX7_elementAt 257 = .ok (.ifCond .eq 17, 3) := by decide +kernel
theorem dX7_elementAt_260 : decode cX7_elementAt 260 = .ok (.lload 14, 2) := by decide +kernel
theorem dX7_elementAt_262 : decode cX7_elementAt 262 = .ok (.aload_n 0, 1) := by decide +kernel
theorem dX7_elementAt_263 : decode cX7_elementAt 263 = .ok (.getfield 119, 3) := by decide +kernel
theorem dX7_elementAt_266 : decode cX7_elementAt 266 = .ok (.iload 4, 2) := by decide +kernel
theorem dX7_elementAt_268 : decode cX7_elementAt 268 = .ok (.isub, 1) := by decide +kernel
theorem dX7_elementAt_269 : decode cX7_elementAt 269 = .ok (.i2l, 1) := by decide +kernel
theorem dX7_elementAt_270 : decode cX7_elementAt 270 = .ok (.lcmp, 1) := by decide +kernel
theorem dX7_elementAt_271 : decode cX7_elementAt 271 = .ok (.ifCond .le 13, 3) := by decide +kernel
theorem dX7_elementAt_274 : decode cX7_elementAt 274 = .ok (.aload_n 0, 1) := by decide +kernel
theorem dX7_elementAt_275 : decode cX7_elementAt 275 = .ok (.iconst 4, 1) := by decide +kernel
theorem dX7_elementAt_276 : decode cX7_elementAt 276 = .ok (.iload_n 1, 1) := by decide +kernel
theorem dX7_elementAt_277 : decode cX7_elementAt 277 = .ok (.iload_n 2, 1) := by decide +kernel
theorem dX7_elementAt_278 : decode cX7_elementAt 278 = .ok (.isub, 1) := by decide +kernel
theorem dX7_elementAt_279 : decode cX7_elementAt 279 = .ok (.invokevirtual 122, 3) := by decide +kernel
theorem dX7_elementAt_282 : decode cX7_elementAt 282 = .ok (.iload_n 1, 1) := by decide +kernel
theorem dX7_elementAt_283 : decode cX7_elementAt 283 = .ok (.ireturn, 1) := by decide +kernel
theorem dX7_elementAt_284 : decode cX7_elementAt 284 = .ok (.aload_n 0, 1) := by decide +kernel
theorem dX7_elementAt_285 : decode cX7_elementAt 285 = .ok (.getfield 119, 3) := by decide +kernel
theorem dX7_elementAt_288 : decode cX7_elementAt 288 = .ok (.iload 4, 2) := by decide +kernel
theorem dX7_elementAt_290 : decode cX7_elementAt 290 = .ok (.isub, 1) := by decide +kernel
theorem dX7_elementAt_291 : decode cX7_elementAt 291 = .ok (.i2l, 1) := by decide +kernel
theorem dX7_elementAt_292 : decode cX7_elementAt 292 = .ok (.lload 12, 2) := by decide +kernel
theorem dX7_elementAt_294 : decode cX7_elementAt 294 = .ok (.ladd, 1) := by decide +kernel
theorem dX7_elementAt_295 : decode cX7_elementAt 295 = .ok (.aload_n 0, 1) := by decide +kernel
theorem dX7_elementAt_296 : decode cX7_elementAt 296 = .ok (.getfield 127, 3) := by decide +kernel
theorem dX7_elementAt_299 : decode cX7_elementAt 299 = .ok (.i2l, 1) := by decide +kernel
theorem dX7_elementAt_300 : decode cX7_elementAt 300 = .ok (.lcmp, 1) := by decide +kernel
theorem dX7_elementAt_301 : decode cX7_elementAt 301 = .ok (.ifCond .le 13, 3) := by decide +kernel
theorem dX7_elementAt_304 : decode cX7_elementAt 304 = .ok (.aload_n 0, 1) := by decide +kernel
theorem dX7_elementAt_305 : decode cX7_elementAt 305 = .ok (.iconst 5, 1) := by decide +kernel
theorem dX7_elementAt_306 : decode cX7_elementAt 306 = .ok (.iload_n 1, 1) := by decide +kernel
theorem dX7_elementAt_307 : decode cX7_elementAt 307 = .ok (.iload_n 2, 1) := by decide +kernel
theorem dX7_elementAt_308 : decode cX7_elementAt 308 = .ok (.isub, 1) := by decide +kernel
theorem dX7_elementAt_309 : decode cX7_elementAt 309 = .ok (.invokevirtual 122, 3) := by decide +kernel
theorem dX7_elementAt_312 : decode cX7_elementAt 312 = .ok (.iload_n 1, 1) := by decide +kernel
theorem dX7_elementAt_313 : decode cX7_elementAt 313 = .ok (.ireturn, 1) := by decide +kernel
theorem dX7_elementAt_314 : decode cX7_elementAt 314 = .ok (.aload_n 0, 1) := by decide +kernel
theorem dX7_elementAt_315 : decode cX7_elementAt 315 = .ok (.getfield 113, 3) := by decide +kernel
theorem dX7_elementAt_318 : decode cX7_elementAt 318 = .ok (.sipush 1000, 3) := by decide +kernel
theorem dX7_elementAt_321 : decode cX7_elementAt 321 = .ok (.if_icmp .ge 84, 3) := by decide +kernel
theorem dX7_elementAt_324 : decode cX7_elementAt 324 = .ok (.aload_n 0, 1) := by decide +kernel
theorem dX7_elementAt_325 : decode cX7_elementAt 325 = .ok (.getfield 29, 3) := by decide +kernel
theorem dX7_elementAt_328 : decode cX7_elementAt 328 = .ok (.iconst 5, 1) := by decide +kernel
theorem dX7_elementAt_329 : decode cX7_elementAt 329 = .ok (.aload_n 0, 1) := by decide +kernel
theorem dX7_elementAt_330 : decode cX7_elementAt 330 = .ok (.getfield 113, 3) := by decide +kernel
theorem dX7_elementAt_333 : decode cX7_elementAt 333 = .ok (.imul, 1) := by decide +kernel
theorem dX7_elementAt_334 : decode cX7_elementAt 334 = .ok (.iload 6, 2) := by decide +kernel
theorem dX7_elementAt_336 : decode cX7_elementAt 336 = .ok (.iastore, 1) := by decide +kernel
theorem dX7_elementAt_337 : decode cX7_elementAt 337 = .ok (.aload_n 0, 1) := by decide +kernel
theorem dX7_elementAt_338 : decode cX7_elementAt 338 = .ok (.getfield 29, 3) := by decide +kernel
theorem dX7_elementAt_341 : decode cX7_elementAt 341 = .ok (.iconst 5, 1) := by decide +kernel
theorem dX7_elementAt_342 : decode cX7_elementAt 342 = .ok (.aload_n 0, 1) := by decide +kernel
theorem dX7_elementAt_343 : decode cX7_elementAt 343 = .ok (.getfield 113, 3) := by decide +kernel
theorem dX7_elementAt_346 : decode cX7_elementAt 346 = .ok (.imul, 1) := by decide +kernel
theorem dX7_elementAt_347 : decode cX7_elementAt 347 = .ok (.iconst 1, 1) := by decide +kernel
theorem dX7_elementAt_348 : decode cX7_elementAt 348 = .ok (.iadd, 1) := by decide +kernel
theorem dX7_elementAt_349 : decode cX7_elementAt 349 = .ok (.iload_n 1, 1) := by decide +kernel
theorem dX7_elementAt_350 : decode cX7_elementAt 350 = .ok (.iload_n 2, 1) := by decide +kernel
theorem dX7_elementAt_351 : decode cX7_elementAt 351 = .ok (.isub, 1) := by decide +kernel
theorem dX7_elementAt_352 : decode cX7_elementAt 352 = .ok (.iastore, 1) := by decide +kernel
theorem dX7_elementAt_353 : decode cX7_elementAt 353 = .ok (.aload_n 0, 1) := by decide +kernel
theorem dX7_elementAt_354 : decode cX7_elementAt 354 = .ok (.getfield 29, 3) := by decide +kernel
theorem dX7_elementAt_357 : decode cX7_elementAt 357 = .ok (.iconst 5, 1) := by decide +kernel
theorem dX7_elementAt_358 : decode cX7_elementAt 358 = .ok (.aload_n 0, 1) := by decide +kernel
theorem dX7_elementAt_359 : decode cX7_elementAt 359 = .ok (.getfield 113, 3) := by decide +kernel
theorem dX7_elementAt_362 : decode cX7_elementAt 362 = .ok (.imul, 1) := by decide +kernel
theorem dX7_elementAt_363 : decode cX7_elementAt 363 = .ok (.iconst 2, 1) := by decide +kernel
theorem dX7_elementAt_364 : decode cX7_elementAt 364 = .ok (.iadd, 1) := by decide +kernel
theorem dX7_elementAt_365 : decode cX7_elementAt 365 = .ok (.lload 12, 2) := by decide +kernel
theorem dX7_elementAt_367 : decode cX7_elementAt 367 = .ok (.l2i, 1) := by decide +kernel
theorem dX7_elementAt_368 : decode cX7_elementAt 368 = .ok (.iastore, 1) := by decide +kernel
theorem dX7_elementAt_369 : decode cX7_elementAt 369 = .ok (.aload_n 0, 1) := by decide +kernel
theorem dX7_elementAt_370 : decode cX7_elementAt 370 = .ok (.getfield 29, 3) := by decide +kernel
theorem dX7_elementAt_373 : decode cX7_elementAt 373 = .ok (.iconst 5, 1) := by decide +kernel
theorem dX7_elementAt_374 : decode cX7_elementAt 374 = .ok (.aload_n 0, 1) := by decide +kernel
theorem dX7_elementAt_375 : decode cX7_elementAt 375 = .ok (.getfield 113, 3) := by decide +kernel
theorem dX7_elementAt_378 : decode cX7_elementAt 378 = .ok (.imul, 1) := by decide +kernel
theorem dX7_elementAt_379 : decode cX7_elementAt 379 = .ok (.iconst 3, 1) := by decide +kernel
theorem dX7_elementAt_380 : decode cX7_elementAt 380 = .ok (.iadd, 1) := by decide +kernel
theorem dX7_elementAt_381 : decode cX7_elementAt 381 = .ok (.lload 14, 2) := by decide +kernel
theorem dX7_elementAt_383 : decode cX7_elementAt 383 = .ok (.l2i, 1) := by decide +kernel
theorem dX7_elementAt_384 : decode cX7_elementAt 384 = .ok (.iastore, 1) := by decide +kernel
theorem dX7_elementAt_385 : decode cX7_elementAt 385 = .ok (.aload_n 0, 1) := by decide +kernel
theorem dX7_elementAt_386 : decode cX7_elementAt 386 = .ok (.getfield 29, 3) := by decide +kernel
theorem dX7_elementAt_389 : decode cX7_elementAt 389 = .ok (.iconst 5, 1) := by decide +kernel
theorem dX7_elementAt_390 : decode cX7_elementAt 390 = .ok (.aload_n 0, 1) := by decide +kernel
theorem dX7_elementAt_391 : decode cX7_elementAt 391 = .ok (.getfield 113, 3) := by decide +kernel
theorem dX7_elementAt_394 : decode cX7_elementAt 394 = .ok (.imul, 1) := by decide +kernel
theorem dX7_elementAt_395 : decode cX7_elementAt 395 = .ok (.iconst 4, 1) := by decide +kernel
theorem dX7_elementAt_396 : decode cX7_elementAt 396 = .ok (.iadd, 1) := by decide +kernel
theorem dX7_elementAt_397 : decode cX7_elementAt 397 = .ok (.aload_n 0, 1) := by decide +kernel
theorem dX7_elementAt_398 : decode cX7_elementAt 398 = .ok (.getfield 119, 3) := by decide +kernel
theorem dX7_elementAt_401 : decode cX7_elementAt 401 = .ok (.iload 4, 2) := by decide +kernel
theorem dX7_elementAt_403 : decode cX7_elementAt 403 = .ok (.isub, 1) := by decide +kernel
theorem dX7_elementAt_404 : decode cX7_elementAt 404 = .ok (.iastore, 1) := by decide +kernel
theorem dX7_elementAt_405 : decode cX7_elementAt 405 = .ok (.aload_n 0, 1) := by decide +kernel
theorem dX7_elementAt_406 : decode cX7_elementAt 406 = .ok (.dup, 1) := by decide +kernel
theorem dX7_elementAt_407 : decode cX7_elementAt 407 = .ok (.getfield 113, 3) := by decide +kernel
theorem dX7_elementAt_410 : decode cX7_elementAt 410 = .ok (.iconst 1, 1) := by decide +kernel
theorem dX7_elementAt_411 : decode cX7_elementAt 411 = .ok (.iadd, 1) := by decide +kernel
theorem dX7_elementAt_412 : decode cX7_elementAt 412 = .ok (.putfield 113, 3) := by decide +kernel
theorem dX7_elementAt_415 : decode cX7_elementAt 415 = .ok (.aload_n 0, 1) := by decide +kernel
theorem dX7_elementAt_416 : decode cX7_elementAt 416 = .ok (.dup, 1) := by decide +kernel
theorem dX7_elementAt_417 : decode cX7_elementAt 417 = .ok (.getfield 116, 3) := by decide +kernel
theorem dX7_elementAt_420 : decode cX7_elementAt 420 = .ok (.iload 6, 2) := by decide +kernel
theorem dX7_elementAt_422 : decode cX7_elementAt 422 = .ok (.ifCond .ne 7, 3) := by decide +kernel
theorem dX7_elementAt_425 : decode cX7_elementAt 425 = .ok (.iconst 1, 1) := by decide +kernel
theorem dX7_elementAt_426 : decode cX7_elementAt 426 = .ok (.goto 4, 3) := by decide +kernel
theorem dX7_elementAt_429 : decode cX7_elementAt 429 = .ok (.iconst 0, 1) := by decide +kernel
theorem dX7_elementAt_430 : decode cX7_elementAt 430 = .ok (.iadd, 1) := by decide +kernel
theorem dX7_elementAt_431 : decode cX7_elementAt 431 = .ok (.putfield 116, 3) := by decide +kernel
theorem dX7_elementAt_434 : decode cX7_elementAt 434 = .ok (.iconst 0, 1) := by decide +kernel
theorem dX7_elementAt_435 : decode cX7_elementAt 435 = .ok (.istore 16, 2) := by decide +kernel
theorem dX7_elementAt_437 : decode cX7_elementAt 437 = .ok (.iload 16, 2) := by decide +kernel
theorem dX7_elementAt_439 : decode cX7_elementAt 439 = .ok (.i2l, 1) := by decide +kernel
theorem dX7_elementAt_440 : decode cX7_elementAt 440 = .ok (.lload 12, 2) := by decide +kernel
theorem dX7_elementAt_442 : decode cX7_elementAt 442 = .ok (.lcmp, 1) := by decide +kernel
theorem dX7_elementAt_443 : decode cX7_elementAt 443 = .ok (.ifCond .ge 59, 3) := by decide +kernel
theorem dX7_elementAt_446 : decode cX7_elementAt 446 = .ok (.aload_n 0, 1) := by decide +kernel
theorem dX7_elementAt_447 : decode cX7_elementAt 447 = .ok (.getfield 16, 3) := by decide +kernel
theorem dX7_elementAt_450 : decode cX7_elementAt 450 = .ok (.aload_n 0, 1) := by decide +kernel
theorem dX7_elementAt_451 : decode cX7_elementAt 451 = .ok (.getfield 119, 3) := by decide +kernel
theorem dX7_elementAt_454 : decode cX7_elementAt 454 = .ok (.iload 6, 2) := by decide +kernel
theorem dX7_elementAt_456 : decode cX7_elementAt 456 = .ok (.ifCond .ne 16, 3) := by decide +kernel
theorem dX7_elementAt_459 : decode cX7_elementAt 459 = .ok (.aload_n 0, 1) := by decide +kernel
theorem dX7_elementAt_460 : decode cX7_elementAt 460 = .ok (.getfield 7, 3) := by decide +kernel
theorem dX7_elementAt_463 : decode cX7_elementAt 463 = .ok (.iload 11, 2) := by decide +kernel
theorem dX7_elementAt_465 : decode cX7_elementAt 465 = .ok (.iload 16, 2) := by decide +kernel
theorem dX7_elementAt_467 : decode cX7_elementAt 467 = .ok (.iadd, 1) := by decide +kernel
theorem dX7_elementAt_468 : decode cX7_elementAt 468 = .ok (.baload, 1) := by decide +kernel
theorem dX7_elementAt_469 : decode cX7_elementAt 469 = .ok (.goto 16, 3) := by decide +kernel
theorem dX7_elementAt_472 : decode cX7_elementAt 472 = .ok (.aload_n 0, 1) := by decide +kernel
theorem dX7_elementAt_473 : decode cX7_elementAt 473 = .ok (.getfield 16, 3) := by decide +kernel
theorem dX7_elementAt_476 : decode cX7_elementAt 476 = .ok (.aload_n 0, 1) := by decide +kernel
theorem dX7_elementAt_477 : decode cX7_elementAt 477 = .ok (.getfield 119, 3) := by decide +kernel
theorem dX7_elementAt_480 : decode cX7_elementAt 480 = .ok (.lload 14, 2) := by decide +kernel
theorem dX7_elementAt_482 : decode cX7_elementAt 482 = .ok (.l2i, 1) := by decide +kernel
theorem dX7_elementAt_483 : decode cX7_elementAt 483 = .ok (.isub, 1) := by decide +kernel
theorem dX7_elementAt_484 : decode cX7_elementAt 484 = .ok (.baload, 1) := by decide +kernel
theorem dX7_elementAt_485 : decode cX7_elementAt 485 = .ok (.bastore, 1) := by decide +kernel
theorem dX7_elementAt_486 : decode cX7_elementAt 486 = .ok (.aload_n 0, 1) := by decide +kernel
theorem dX7_elementAt_487 : decode cX7_elementAt 487 = .ok (.dup, 1) := by decide +kernel
theorem dX7_elementAt_488 : decode cX7_elementAt 488 = .ok (.getfield 119, 3) := by decide +kernel
theorem dX7_elementAt_491 : decode cX7_elementAt 491 = .ok (.iconst 1, 1) := by decide +kernel
theorem dX7_elementAt_492 : decode cX7_elementAt 492 = .ok (.iadd, 1) := by decide +kernel
theorem dX7_elementAt_493 : decode cX7_elementAt 493 = .ok (.putfield 119, 3) := by decide +kernel
theorem dX7_elementAt_496 : decode cX7_elementAt 496 = .ok (.iinc 16 1, 3) := by decide +kernel
theorem dX7_elementAt_499 : decode cX7_elementAt 499 = .ok (.goto (-62), 3) := by decide +kernel
theorem dX7_elementAt_502 : decode cX7_elementAt 502 = .ok (.iload 6, 2) := by decide +kernel
theorem dX7_elementAt_504 : decode cX7_elementAt 504 = .ok (.ifCond .ne 12, 3) := by decide +kernel
theorem dX7_elementAt_507 : decode cX7_elementAt 507 = .ok (.iload 11, 2) := by decide +kernel
theorem dX7_elementAt_509 : decode cX7_elementAt 509 = .ok (.lload 12, 2) := by decide +kernel
theorem dX7_elementAt_511 : decode cX7_elementAt 511 = .ok (.l2i, 1) := by decide +kernel
theorem dX7_elementAt_512 : decode cX7_elementAt 512 = .ok (.iadd, 1) := by decide +kernel
theorem dX7_elementAt_513 : decode cX7_elementAt 513 = .ok (.goto 5, 3) := by decide +kernel
theorem dX7_elementAt_516 : decode cX7_elementAt 516 = .ok (.iload 11, 2) := by decide +kernel
theorem dX7_elementAt_518 : decode cX7_elementAt 518 = .ok (.ireturn, 1) := by decide +kernel
theorem dX7_told_0 : decode cX7_told 0 = .ok (.aload_n 0, 1) := by decide +kernel
theorem dX7_told_1 : decode cX7_told 1 = .ok (.iload_n 1, 1) := by decide +kernel
theorem dX7_told_2 : decode cX7_told 2 = .ok (.putfield 38, 3) := by decide +kernel
theorem dX7_told_5 : decode cX7_told 5 = .ok (.aload_n 0, 1) := by decide +kernel
theorem dX7_told_6 : decode cX7_told 6 = .ok (.iload_n 2, 1) := by decide +kernel
theorem dX7_told_7 : decode cX7_told 7 = .ok (.putfield 42, 3) := by decide +kernel
theorem dX7_told_10 : decode cX7_told 10 = .ok (.aload_n 0, 1) := by decide +kernel
theorem dX7_told_11 : decode cX7_told 11 = .ok (.iload_n 3, 1) := by decide +kernel
theorem dX7_told_12 : decode cX7_told 12 = .ok (.putfield 138, 3) := by decide +kernel
theorem dX7_told_15 : decode cX7_told 15 = .ok (.aload_n 0, 1) := by decide +kernel
theorem dX7_told_16 : decode cX7_told 16 = .ok (.iload 4, 2) := by decide +kernel
theorem dX7_told_18 : decode cX7_told 18 = .ok (.putfield 45, 3) := by decide +kernel
theorem dX7_told_21 : decode cX7_told 21 = .ok (.return_, 1) := by decide +kernel
theorem dX7_open_0 : decode cX7_open 0 = .ok (.aload_n 0, 1) := by decide +kernel
theorem dX7_open_1 : decode cX7_open 1 = .ok (.iconst 0, 1) := by decide +kernel
theorem dX7_open_2 : decode cX7_open 2 = .ok (.putfield 58, 3) := by decide +kernel
theorem dX7_open_5 : decode cX7_open 5 = .ok (.aload_n 0, 1) := by decide +kernel
theorem dX7_open_6 : decode cX7_open 6 = .ok (.iconst 0, 1) := by decide +kernel
theorem dX7_open_7 : decode cX7_open 7 = .ok (.putfield 119, 3) := by decide +kernel
theorem dX7_open_10 : decode cX7_open 10 = .ok (.aload_n 0, 1) := by decide +kernel
theorem dX7_open_11 : decode cX7_open 11 = .ok (.iconst 0, 1) := by decide +kernel
theorem dX7_open_12 : decode cX7_open 12 = .ok (.aload_n 0, 1) := by decide +kernel
theorem dX7_open_13 : decode cX7_open 13 = .ok (.getfield 61, 3) := by decide +kernel
theorem dX7_open_16 : decode cX7_open 16 = .ok (.invokevirtual 141, 3) := by decide +kernel
theorem dX7_open_19 : decode cX7_open 19 = .ok (.aload_n 0, 1) := by decide +kernel
theorem dX7_open_20 : decode cX7_open 20 = .ok (.aload_n 0, 1) := by decide +kernel
theorem dX7_open_21 : decode cX7_open 21 = .ok (.getfield 107, 3) := by decide +kernel
theorem dX7_open_24 : decode cX7_open 24 = .ok (.aload_n 0, 1) := by decide +kernel
theorem dX7_open_25 : decode cX7_open 25 = .ok (.getfield 110, 3) := by decide +kernel
theorem dX7_open_28 : decode cX7_open 28 = .ok (.iconst 0, 1) := by decide +kernel
theorem dX7_open_29 : decode cX7_open 29 = .ok (.iconst (-1), 1) := by decide +kernel
theorem dX7_open_30 : decode cX7_open 30 = .ok (.invokevirtual 144, 3) := by decide +kernel
theorem dX7_open_33 : decode cX7_open 33 = .ok (.aload_n 0, 1) := by decide +kernel
theorem dX7_open_34 : decode cX7_open 34 = .ok (.getfield 107, 3) := by decide +kernel
theorem dX7_open_37 : decode cX7_open 37 = .ok (.ifCond .le 6, 3) := by decide +kernel
theorem dX7_open_40 : decode cX7_open 40 = .ok (.bipush (-2), 2) := by decide +kernel
theorem dX7_open_42 : decode cX7_open 42 = .ok (.ireturn, 1) := by decide +kernel
theorem dX7_open_43 : decode cX7_open 43 = .ok (.aload_n 0, 1) := by decide +kernel
theorem dX7_open_44 : decode cX7_open 44 = .ok (.aload_n 0, 1) := by decide +kernel
theorem dX7_open_45 : decode cX7_open 45 = .ok (.getfield 16, 3) := by decide +kernel
theorem dX7_open_48 : decode cX7_open 48 = .ok (.aload_n 0, 1) := by decide +kernel
theorem dX7_open_49 : decode cX7_open 49 = .ok (.getfield 119, 3) := by decide +kernel
theorem dX7_open_52 : decode cX7_open 52 = .ok (.invokevirtual 103, 3) := by decide +kernel
theorem dX7_open_55 : decode cX7_open 55 = .ok (.aload_n 0, 1) := by decide +kernel
theorem dX7_open_56 : decode cX7_open 56 = .ok (.aload_n 0, 1) := by decide +kernel
theorem dX7_open_57 : decode cX7_open 57 = .ok (.getfield 113, 3) := by decide +kernel
theorem dX7_open_60 : decode cX7_open 60 = .ok (.putfield 148, 3) := by decide +kernel
theorem dX7_open_63 : decode cX7_open 63 = .ok (.aload_n 0, 1) := by decide +kernel
theorem dX7_open_64 : decode cX7_open 64 = .ok (.aload_n 0, 1) := by decide +kernel
theorem dX7_open_65 : decode cX7_open 65 = .ok (.getfield 116, 3) := by decide +kernel
theorem dX7_open_68 : decode cX7_open 68 = .ok (.putfield 151, 3) := by decide +kernel
theorem dX7_open_71 : decode cX7_open 71 = .ok (.iconst 0, 1) := by decide +kernel
theorem dX7_open_72 : decode cX7_open 72 = .ok (.istore_n 1, 1) := by decide +kernel
theorem dX7_open_73 : decode cX7_open 73 = .ok (.iload_n 1, 1) := by decide +kernel
theorem dX7_open_74 : decode cX7_open 74 = .ok (.iconst 5, 1) := by decide +kernel
theorem dX7_open_75 : decode cX7_open 75 = .ok (.aload_n 0, 1) := by decide +kernel
theorem dX7_open_76 : decode cX7_open 76 = .ok (.getfield 113, 3) := by decide +kernel
theorem dX7_open_79 : decode cX7_open 79 = .ok (.imul, 1) := by decide +kernel
theorem dX7_open_80 : decode cX7_open 80 = .ok (.if_icmp .ge 28, 3) := by decide +kernel
theorem dX7_open_83 : decode cX7_open 83 = .ok (.iload_n 1, 1) := by decide +kernel
theorem dX7_open_84 : decode cX7_open 84 = .ok (.sipush 5000, 3) := by decide +kernel
theorem dX7_open_87 : decode cX7_open 87 = .ok (.if_icmp .ge 21, 3) := by decide +kernel
theorem dX7_open_90 : decode cX7_open 90 = .ok (.aload_n 0, 1) := by decide +kernel
theorem dX7_open_91 : decode cX7_open 91 = .ok (.getfield 32, 3) := by decide +kernel
theorem dX7_open_94 : decode cX7_open 94 = .ok (.iload_n 1, 1) := by decide +kernel
theorem dX7_open_95 : decode cX7_open 95 = .ok (.aload_n 0, 1) := by decide +kernel
theorem dX7_open_96 : decode cX7_open 96 = .ok (.getfield 29, 3) := by decide +kernel
theorem dX7_open_99 : decode cX7_open 99 = .ok (.iload_n 1, 1) := by decide +kernel
theorem dX7_open_100 : decode cX7_open 100 = .ok (.iaload, 1) := by decide +kernel
theorem dX7_open_101 : decode cX7_open 101 = .ok (.iastore, 1) := by decide +kernel
theorem dX7_open_102 : decode cX7_open 102 = .ok (.iinc 1 1, 3) := by decide +kernel
theorem dX7_open_105 : decode cX7_open 105 = .ok (.goto (-32), 3) := by decide +kernel
theorem dX7_open_108 : decode cX7_open 108 = .ok (.aload_n 0, 1) := by decide +kernel
theorem dX7_open_109 : decode cX7_open 109 = .ok (.getfield 68, 3) := by decide +kernel
theorem dX7_open_112 : decode cX7_open 112 = .ok (.ireturn, 1) := by decide +kernel
theorem dX7_fault_0 : decode cX7_fault 0 = .ok (.aload_n 0, 1) := by decide +kernel
theorem dX7_fault_1 : decode cX7_fault 1 = .ok (.iconst 0, 1) := by decide +kernel
theorem dX7_fault_2 : decode cX7_fault 2 = .ok (.putfield 58, 3) := by decide +kernel
theorem dX7_fault_5 : decode cX7_fault 5 = .ok (.aload_n 0, 1) := by decide +kernel
theorem dX7_fault_6 : decode cX7_fault 6 = .ok (.getfield 38, 3) := by decide +kernel
theorem dX7_fault_9 : decode cX7_fault 9 = .ok (.ifCond .ge 5, 3) := by decide +kernel
theorem dX7_fault_12 : decode cX7_fault 12 = .ok (.iconst (-1), 1) := by decide +kernel
theorem dX7_fault_13 : decode cX7_fault 13 = .ok (.ireturn, 1) := by decide +kernel
theorem dX7_fault_14 : decode cX7_fault 14 = .ok (.iload_n 1, 1) := by decide +kernel
theorem dX7_fault_15 : decode cX7_fault 15 = .ok (.tableswitch 49 0 3 #[29, 34, 39, 44], 29) := by decide +kernel
theorem dX7_fault_44 : decode cX7_fault 44 = .ok (.aload_n 0, 1) := by decide +kernel
theorem dX7_fault_45 : decode cX7_fault 45 = .ok (.getfield 38, 3) := by decide +kernel
theorem dX7_fault_48 : decode cX7_fault 48 = .ok (.ireturn, 1) := by decide +kernel
theorem dX7_fault_49 : decode cX7_fault 49 = .ok (.aload_n 0, 1) := by decide +kernel
theorem dX7_fault_50 : decode cX7_fault 50 = .ok (.getfield 42, 3) := by decide +kernel
theorem dX7_fault_53 : decode cX7_fault 53 = .ok (.ireturn, 1) := by decide +kernel
theorem dX7_fault_54 : decode cX7_fault 54 = .ok (.aload_n 0, 1) := by decide +kernel
theorem dX7_fault_55 : decode cX7_fault 55 = .ok (.getfield 138, 3) := by decide +kernel
theorem dX7_fault_58 : decode cX7_fault 58 = .ok (.ireturn, 1) := by decide +kernel
theorem dX7_fault_59 : decode cX7_fault 59 = .ok (.aload_n 0, 1) := by decide +kernel
theorem dX7_fault_60 : decode cX7_fault 60 = .ok (.getfield 45, 3) := by decide +kernel
theorem dX7_fault_63 : decode cX7_fault 63 = .ok (.ireturn, 1) := by decide +kernel
theorem dX7_fault_64 : decode cX7_fault 64 = .ok (.iconst (-1), 1) := by decide +kernel
theorem dX7_fault_65 : decode cX7_fault 65 = .ok (.ireturn, 1) := by decide +kernel
theorem dX7_element_0 : decode cX7_element 0 = .ok (.aload_n 0, 1) := by decide +kernel
theorem dX7_element_1 : decode cX7_element 1 = .ok (.iconst 0, 1) := by decide +kernel
theorem dX7_element_2 : decode cX7_element 2 = .ok (.putfield 58, 3) := by decide +kernel
theorem dX7_element_5 : decode cX7_element 5 = .ok (.iload_n 1, 1) := by decide +kernel
theorem dX7_element_6 : decode cX7_element 6 = .ok (.ifCond .lt 40, 3) := by decide +kernel
theorem dX7_element_9 : decode cX7_element 9 = .ok (.iload_n 1, 1) := by decide +kernel
theorem dX7_element_10 : decode cX7_element 10 = .ok (.aload_n 0, 1) := by decide +kernel
theorem dX7_element_11 : decode cX7_element 11 = .ok (.getfield 148, 3) := by decide +kernel
theorem dX7_element_14 : decode cX7_element 14 = .ok (.if_icmp .ge 32, 3) := by decide +kernel
theorem dX7_element_17 : decode cX7_element 17 = .ok (.iload_n 1, 1) := by decide +kernel
theorem dX7_element_18 : decode cX7_element 18 = .ok (.sipush 1000, 3) := by decide +kernel
theorem dX7_element_21 : decode cX7_element 21 = .ok (.if_icmp .ge 25, 3) := by decide +kernel
theorem dX7_element_24 : decode cX7_element 24 = .ok (.iload_n 2, 1) := by decide +kernel
theorem dX7_element_25 : decode cX7_element 25 = .ok (.ifCond .lt 21, 3) := by decide +kernel
theorem dX7_element_28 : decode cX7_element 28 = .ok (.iload_n 2, 1) := by decide +kernel
theorem dX7_element_29 : decode cX7_element 29 = .ok (.iconst 5, 1) := by decide +kernel
theorem dX7_element_30 : decode cX7_element 30 = .ok (.if_icmp .ge 16, 3) := by decide +kernel
theorem dX7_element_33 : decode cX7_element 33 = .ok (.aload_n 0, 1) := by decide +kernel
theorem dX7_element_34 : decode cX7_element 34 = .ok (.getfield 32, 3) := by decide +kernel
theorem dX7_element_37 : decode cX7_element 37 = .ok (.iconst 5, 1) := by decide +kernel
theorem dX7_element_38 : decode cX7_element 38 = .ok (.iload_n 1, 1) := by decide +kernel
theorem dX7_element_39 : decode cX7_element 39 = .ok (.imul, 1) := by decide +kernel
theorem dX7_element_40 : decode cX7_element 40 = .ok (.iload_n 2, 1) := by decide +kernel
theorem dX7_element_41 : decode cX7_element 41 = .ok (.iadd, 1) := by decide +kernel
theorem dX7_element_42 : decode cX7_element 42 = .ok (.iaload, 1) := by decide +kernel
theorem dX7_element_43 : decode cX7_element 43 = .ok (.goto 4, 3) := by decide +kernel
theorem dX7_element_46 : decode cX7_element 46 = .ok (.iconst (-1), 1) := by decide +kernel
theorem dX7_element_47 : decode cX7_element 47 = .ok (.ireturn, 1) := by decide +kernel
theorem dX7_chunk_0 : decode cX7_chunk 0 = .ok (.aload_n 0, 1) := by decide +kernel
theorem dX7_chunk_1 : decode cX7_chunk 1 = .ok (.iconst 0, 1) := by decide +kernel
theorem dX7_chunk_2 : decode cX7_chunk 2 = .ok (.putfield 58, 3) := by decide +kernel
theorem dX7_chunk_5 : decode cX7_chunk 5 = .ok (.iload_n 1, 1) := by decide +kernel
theorem dX7_chunk_6 : decode cX7_chunk 6 = .ok (.ifCond .lt 40, 3) := by decide +kernel
theorem dX7_chunk_9 : decode cX7_chunk 9 = .ok (.iload_n 1, 1) := by decide +kernel
theorem dX7_chunk_10 : decode cX7_chunk 10 = .ok (.aload_n 0, 1) := by decide +kernel
theorem dX7_chunk_11 : decode cX7_chunk 11 = .ok (.getfield 154, 3) := by decide +kernel
theorem dX7_chunk_14 : decode cX7_chunk 14 = .ok (.if_icmp .ge 32, 3) := by decide +kernel
theorem dX7_chunk_17 : decode cX7_chunk 17 = .ok (.iload_n 1, 1) := by decide +kernel
theorem dX7_chunk_18 : decode cX7_chunk 18 = .ok (.sipush 1000, 3) := by decide +kernel
theorem dX7_chunk_21 : decode cX7_chunk 21 = .ok (.if_icmp .ge 25, 3) := by decide +kernel
theorem dX7_chunk_24 : decode cX7_chunk 24 = .ok (.iload_n 2, 1) := by decide +kernel
theorem dX7_chunk_25 : decode cX7_chunk 25 = .ok (.ifCond .lt 21, 3) := by decide +kernel
theorem dX7_chunk_28 : decode cX7_chunk 28 = .ok (.iload_n 2, 1) := by decide +kernel
theorem dX7_chunk_29 : decode cX7_chunk 29 = .ok (.iconst 5, 1) := by decide +kernel
theorem dX7_chunk_30 : decode cX7_chunk 30 = .ok (.if_icmp .ge 16, 3) := by decide +kernel
theorem dX7_chunk_33 : decode cX7_chunk 33 = .ok (.aload_n 0, 1) := by decide +kernel
theorem dX7_chunk_34 : decode cX7_chunk 34 = .ok (.getfield 35, 3) := by decide +kernel
theorem dX7_chunk_37 : decode cX7_chunk 37 = .ok (.iconst 5, 1) := by decide +kernel
theorem dX7_chunk_38 : decode cX7_chunk 38 = .ok (.iload_n 1, 1) := by decide +kernel
theorem dX7_chunk_39 : decode cX7_chunk 39 = .ok (.imul, 1) := by decide +kernel
theorem dX7_chunk_40 : decode cX7_chunk 40 = .ok (.iload_n 2, 1) := by decide +kernel
theorem dX7_chunk_41 : decode cX7_chunk 41 = .ok (.iadd, 1) := by decide +kernel
theorem dX7_chunk_42 : decode cX7_chunk 42 = .ok (.iaload, 1) := by decide +kernel
theorem dX7_chunk_43 : decode cX7_chunk 43 = .ok (.goto 4, 3) := by decide +kernel
theorem dX7_chunk_46 : decode cX7_chunk 46 = .ok (.iconst (-1), 1) := by decide +kernel
theorem dX7_chunk_47 : decode cX7_chunk 47 = .ok (.ireturn, 1) := by decide +kernel
theorem dX7_about_0 : decode cX7_about 0 = .ok (.aload_n 0, 1) := by decide +kernel
theorem dX7_about_1 : decode cX7_about 1 = .ok (.iconst 0, 1) := by decide +kernel
theorem dX7_about_2 : decode cX7_about 2 = .ok (.putfield 58, 3) := by decide +kernel
theorem dX7_about_5 : decode cX7_about 5 = .ok (.iload_n 1, 1) := by decide +kernel
theorem dX7_about_6 : decode cX7_about 6 = .ok (.tableswitch 68 0 5 #[38, 43, 48, 53, 58, 63], 38) := by decide +kernel
theorem dX7_about_44 : decode cX7_about 44 = .ok (.aload_n 0, 1) := by decide +kernel
theorem dX7_about_45 : decode cX7_about 45 = .ok (.getfield 61, 3) := by decide +kernel
theorem dX7_about_48 : decode cX7_about 48 = .ok (.ireturn, 1) := by decide +kernel
theorem dX7_about_49 : decode cX7_about 49 = .ok (.aload_n 0, 1) := by decide +kernel
theorem dX7_about_50 : decode cX7_about 50 = .ok (.getfield 68, 3) := by decide +kernel
theorem dX7_about_53 : decode cX7_about 53 = .ok (.ireturn, 1) := by decide +kernel
theorem dX7_about_54 : decode cX7_about 54 = .ok (.aload_n 0, 1) := by decide +kernel
theorem dX7_about_55 : decode cX7_about 55 = .ok (.getfield 148, 3) := by decide +kernel
theorem dX7_about_58 : decode cX7_about 58 = .ok (.ireturn, 1) := by decide +kernel
theorem dX7_about_59 : decode cX7_about 59 = .ok (.aload_n 0, 1) := by decide +kernel
theorem dX7_about_60 : decode cX7_about 60 = .ok (.getfield 151, 3) := by decide +kernel
theorem dX7_about_63 : decode cX7_about 63 = .ok (.ireturn, 1) := by decide +kernel
theorem dX7_about_64 : decode cX7_about 64 = .ok (.aload_n 0, 1) := by decide +kernel
theorem dX7_about_65 : decode cX7_about 65 = .ok (.getfield 154, 3) := by decide +kernel
theorem dX7_about_68 : decode cX7_about 68 = .ok (.ireturn, 1) := by decide +kernel
theorem dX7_about_69 : decode cX7_about 69 = .ok (.aload_n 0, 1) := by decide +kernel
theorem dX7_about_70 : decode cX7_about 70 = .ok (.getfield 157, 3) := by decide +kernel
theorem dX7_about_73 : decode cX7_about 73 = .ok (.ireturn, 1) := by decide +kernel
theorem dX7_about_74 : decode cX7_about 74 = .ok (.iconst (-1), 1) := by decide +kernel
theorem dX7_about_75 : decode cX7_about 75 = .ok (.ireturn, 1) := by decide +kernel
theorem dX7_sumOf_0 : decode cX7_sumOf 0 = .ok (.iconst (-1), 1) := by decide +kernel
theorem dX7_sumOf_1 : decode cX7_sumOf 1 = .ok (.istore 4, 2) := by decide +kernel
theorem dX7_sumOf_3 : decode cX7_sumOf 3 = .ok (.iload_n 2, 1) := by decide +kernel
theorem dX7_sumOf_4 : decode cX7_sumOf 4 = .ok (.istore 5, 2) := by decide +kernel
theorem dX7_sumOf_6 : decode cX7_sumOf 6 = .ok (.iload 5, 2) := by decide +kernel
theorem dX7_sumOf_8 : decode cX7_sumOf 8 = .ok (.iload_n 3, 1) := by decide +kernel
theorem dX7_sumOf_9 : decode cX7_sumOf 9 = .ok (.if_icmp .ge 33, 3) := by decide +kernel
theorem dX7_sumOf_12 : decode cX7_sumOf 12 = .ok (.aload_n 0, 1) := by decide +kernel
theorem dX7_sumOf_13 : decode cX7_sumOf 13 = .ok (.getfield 48, 3) := by decide +kernel
theorem dX7_sumOf_16 : decode cX7_sumOf 16 = .ok (.iload 4, 2) := by decide +kernel
theorem dX7_sumOf_18 : decode cX7_sumOf 18 = .ok (.aload_n 1, 1) := by decide +kernel
theorem dX7_sumOf_19 : decode cX7_sumOf 19 = .ok (.iload 5, 2) := by decide +kernel
theorem dX7_sumOf_21 : decode cX7_sumOf 21 = .ok (.baload, 1) := by decide +kernel
theorem dX7_sumOf_22 : decode cX7_sumOf 22 = .ok (.ixor, 1) := by decide +kernel
theorem dX7_sumOf_23 : decode cX7_sumOf 23 = .ok (.sipush 255, 3) := by decide +kernel
theorem dX7_sumOf_26 : decode cX7_sumOf 26 = .ok (.iand, 1) := by decide +kernel
theorem dX7_sumOf_27 : decode cX7_sumOf 27 = .ok (.iaload, 1) := by decide +kernel
theorem dX7_sumOf_28 : decode cX7_sumOf 28 = .ok (.iload 4, 2) := by decide +kernel
theorem dX7_sumOf_30 : decode cX7_sumOf 30 = .ok (.bipush 8, 2) := by decide +kernel
theorem dX7_sumOf_32 : decode cX7_sumOf 32 = .ok (.iushr, 1) := by decide +kernel
theorem dX7_sumOf_33 : decode cX7_sumOf 33 = .ok (.ixor, 1) := by decide +kernel
theorem dX7_sumOf_34 : decode cX7_sumOf 34 = .ok (.istore 4, 2) := by decide +kernel
theorem dX7_sumOf_36 : decode cX7_sumOf 36 = .ok (.iinc 5 1, 3) := by decide +kernel
theorem dX7_sumOf_39 : decode cX7_sumOf 39 = .ok (.goto (-33), 3) := by decide +kernel
theorem dX7_sumOf_42 : decode cX7_sumOf 42 = .ok (.iload 4, 2) := by decide +kernel
theorem dX7_sumOf_44 : decode cX7_sumOf 44 = .ok (.iconst (-1), 1) := by decide +kernel
theorem dX7_sumOf_45 : decode cX7_sumOf 45 = .ok (.ixor, 1) := by decide +kernel
theorem dX7_sumOf_46 : decode cX7_sumOf 46 = .ok (.ireturn, 1) := by decide +kernel
theorem dX7_masked_0 : decode cX7_masked 0 = .ok (.iload_n 1, 1) := by decide +kernel
theorem dX7_masked_1 : decode cX7_masked 1 = .ok (.bipush 15, 2) := by decide +kernel
theorem dX7_masked_3 : decode cX7_masked 3 = .ok (.iushr, 1) := by decide +kernel
theorem dX7_masked_4 : decode cX7_masked 4 = .ok (.iload_n 1, 1) := by decide +kernel
theorem dX7_masked_5 : decode cX7_masked 5 = .ok (.bipush 17, 2) := by decide +kernel
theorem dX7_masked_7 : decode cX7_masked 7 = .ok (.ishl, 1) := by decide +kernel
