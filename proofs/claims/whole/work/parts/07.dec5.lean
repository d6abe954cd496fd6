theorem dX11_isFree_30 : decode mX11_isFree.2.1 30 = .ok (.iconst 1, 1) := by decide +kernel
theorem dX11_isFree_31 : decode mX11_isFree.2.1 31 = .ok (.ireturn, 1) := by decide +kernel
theorem dX11_isFree_32 : decode mX11_isFree.2.1 32 = .ok (.aload_n 0, 1) := by decide +kernel
theorem dX11_isFree_33 : decode mX11_isFree.2.1 33 = .ok (.getfield 40, 3) := by decide +kernel
theorem dX11_isFree_36 : decode mX11_isFree.2.1 36 = .ok (.bipush 40, 2) := by decide +kernel
theorem dX11_isFree_38 : decode mX11_isFree.2.1 38 = .ok (.iload_n 2, 1) := by decide +kernel
theorem dX11_isFree_39 : decode mX11_isFree.2.1 39 = .ok (.imul, 1) := by decide +kernel
theorem dX11_isFree_40 : decode mX11_isFree.2.1 40 = .ok (.iload_n 3, 1) := by decide +kernel
theorem dX11_isFree_41 : decode mX11_isFree.2.1 41 = .ok (.iadd, 1) := by decide +kernel
theorem dX11_isFree_42 : decode mX11_isFree.2.1 42 = .ok (.baload, 1) := by decide +kernel
theorem dX11_isFree_43 : decode mX11_isFree.2.1 43 = .ok (.ifCond .eq 5, 3) := by decide +kernel
theorem dX11_isFree_46 : decode mX11_isFree.2.1 46 = .ok (.iconst 0, 1) := by decide +kernel
theorem dX11_isFree_47 : decode mX11_isFree.2.1 47 = .ok (.ireturn, 1) := by decide +kernel
theorem dX11_isFree_48 : decode mX11_isFree.2.1 48 = .ok (.iconst 0, 1) := by decide +kernel
theorem dX11_isFree_49 : decode mX11_isFree.2.1 49 = .ok (.istore 4, 2) := by decide +kernel
theorem dX11_isFree_51 : decode mX11_isFree.2.1 51 = .ok (.iload 4, 2) := by decide +kernel
theorem dX11_isFree_53 : decode mX11_isFree.2.1 53 = .ok (.aload_n 0, 1) := by decide +kernel
theorem dX11_isFree_54 : decode mX11_isFree.2.1 54 = .ok (.getfield 245, 3) := by decide +kernel
theorem dX11_isFree_57 : decode mX11_isFree.2.1 57 = .ok (.if_icmp .ge 39, 3) := by decide +kernel
theorem dX11_isFree_60 : decode mX11_isFree.2.1 60 = .ok (.iload 4, 2) := by decide +kernel
theorem dX11_isFree_62 : decode mX11_isFree.2.1 62 = .ok (.iload_n 1, 1) := by decide +kernel
theorem dX11_isFree_63 : decode mX11_isFree.2.1 63 = .ok (.if_icmp .eq 27, 3) := by decide +kernel
theorem dX11_isFree_66 : decode mX11_isFree.2.1 66 = .ok (.aload_n 0, 1) := by decide +kernel
theorem dX11_isFree_67 : decode mX11_isFree.2.1 67 = .ok (.getfield 28, 3) := by decide +kernel
theorem dX11_isFree_70 : decode mX11_isFree.2.1 70 = .ok (.iload 4, 2) := by decide +kernel
theorem dX11_isFree_72 : decode mX11_isFree.2.1 72 = .ok (.iaload, 1) := by decide +kernel
theorem dX11_isFree_73 : decode mX11_isFree.2.1 73 = .ok (.iload_n 2, 1) := by decide +kernel
theorem dX11_isFree_74 : decode mX11_isFree.2.1 74 = .ok (.if_icmp .ne 16, 3) := by decide +kernel
theorem dX11_isFree_77 : decode mX11_isFree.2.1 77 = .ok (.aload_n 0, 1) := by decide +kernel
theorem dX11_isFree_78 : decode mX11_isFree.2.1 78 = .ok (.getfield 31, 3) := by decide +kernel
theorem dX11_isFree_81 : decode mX11_isFree.2.1 81 = .ok (.iload 4, 2) := by decide +kernel
theorem dX11_isFree_83 : decode mX11_isFree.2.1 83 = .ok (.iaload, 1) := by decide +kernel
theorem dX11_isFree_84 : decode mX11_isFree.2.1 84 = .ok (.iload_n 3, 1) := by decide +kernel
theorem dX11_isFree_85 : decode mX11_isFree.2.1 85 = .ok (.if_icmp .ne 5, 3) := by decide +kernel
theorem dX11_isFree_88 : decode mX11_isFree.2.1 88 = .ok (.iconst 0, 1) := by decide +kernel
theorem dX11_isFree_89 : decode mX11_isFree.2.1 89 = .ok (.ireturn, 1) := by decide +kernel
theorem dX11_isFree_90 : decode mX11_isFree.2.1 90 = .ok (.iinc 4 1, 3) := by decide +kernel
theorem dX11_isFree_93 : decode mX11_isFree.2.1 93 = .ok (.goto (-42), 3) := by decide +kernel
theorem dX11_isFree_96 : decode mX11_isFree.2.1 96 = .ok (.iconst 1, 1) := by decide +kernel
theorem dX11_isFree_97 : decode mX11_isFree.2.1 97 = .ok (.ireturn, 1) := by decide +kernel
theorem dX11_path_0 : decode mX11_path.2.1 0 = .ok (.aload_n 0, 1) := by decide +kernel
theorem dX11_path_1 : decode mX11_path.2.1 1 = .ok (.iconst 0, 1) := by decide +kernel
theorem dX11_path_2 : decode mX11_path.2.1 2 = .ok (.putfield 213, 3) := by decide +kernel
theorem dX11_path_5 : decode mX11_path.2.1 5 = .ok (.aload_n 0, 1) := by decide +kernel
theorem dX11_path_6 : decode mX11_path.2.1 6 = .ok (.iconst 0, 1) := by decide +kernel
theorem dX11_path_7 : decode mX11_path.2.1 7 = .ok (.putfield 216, 3) := by decide +kernel
theorem dX11_path_10 : decode mX11_path.2.1 10 = .ok (.aload_n 0, 1) := by decide +kernel
theorem dX11_path_11 : decode mX11_path.2.1 11 = .ok (.iload_n 1, 1) := by decide +kernel
theorem dX11_path_12 : decode mX11_path.2.1 12 = .ok (.invokevirtual 498, 3) := by decide +kernel
theorem dX11_path_15 : decode mX11_path.2.1 15 = .ok (.ifCond .ne 9, 3) := by decide +kernel
theorem dX11_path_18 : decode mX11_path.2.1 18 = .ok (.aload_n 0, 1) := by decide +kernel
theorem dX11_path_19 : decode mX11_path.2.1 19 = .ok (.iconst 2, 1) := by decide +kernel
theorem dX11_path_20 : decode mX11_path.2.1 20 = .ok (.invokevirtual 254, 3) := by decide +kernel
theorem dX11_path_23 : decode mX11_path.2.1 23 = .ok (.ireturn, 1) := by decide +kernel
theorem dX11_path_24 : decode mX11_path.2.1 24 = .ok (.iload_n 2, 1) := by decide +kernel
theorem dX11_path_25 : decode mX11_path.2.1 25 = .ok (.iload_n 3, 1) := by decide +kernel
theorem dX11_path_26 : decode mX11_path.2.1 26 = .ok (.invokestatic 248, 3) := by decide +kernel
theorem dX11_path_29 : decode mX11_path.2.1 29 = .ok (.ifCond .eq 22, 3) := by decide +kernel
theorem dX11_path_32 : decode mX11_path.2.1 32 = .ok (.iload 4, 2) := by decide +kernel
theorem dX11_path_34 : decode mX11_path.2.1 34 = .ok (.iconst (-1), 1) := by decide +kernel
theorem dX11_path_35 : decode mX11_path.2.1 35 = .ok (.if_icmp .eq 22, 3) := by decide +kernel
theorem dX11_path_38 : decode mX11_path.2.1 38 = .ok (.iload 4, 2) := by decide +kernel
theorem dX11_path_40 : decode mX11_path.2.1 40 = .ok (.i2l, 1) := by decide +kernel
theorem dX11_path_41 : decode mX11_path.2.1 41 = .ok (.lconst 0, 1) := by decide +kernel
theorem dX11_path_42 : decode mX11_path.2.1 42 = .ok (.ldc2_w 252, 3) := by decide +kernel
theorem dX11_path_45 : decode mX11_path.2.1 45 = .ok (.invokestatic 221, 3) := by decide +kernel
theorem dX11_path_48 : decode mX11_path.2.1 48 = .ok (.ifCond .ne 9, 3) := by decide +kernel
theorem dX11_path_51 : decode mX11_path.2.1 51 = .ok (.aload_n 0, 1) := by decide +kernel
theorem dX11_path_52 : decode mX11_path.2.1 52 = .ok (.iconst 5, 1) := by decide +kernel
theorem dX11_path_53 : decode mX11_path.2.1 53 = .ok (.invokevirtual 254, 3) := by decide +kernel
theorem dX11_path_56 : decode mX11_path.2.1 56 = .ok (.ireturn, 1) := by decide +kernel
theorem dX11_path_57 : decode mX11_path.2.1 57 = .ok (.iconst 0, 1) := by decide +kernel
theorem dX11_path_58 : decode mX11_path.2.1 58 = .ok (.istore 5, 2) := by decide +kernel
theorem dX11_path_60 : decode mX11_path.2.1 60 = .ok (.iload 5, 2) := by decide +kernel
theorem dX11_path_62 : decode mX11_path.2.1 62 = .ok (.sipush 19200, 3) := by decide +kernel
theorem dX11_path_65 : decode mX11_path.2.1 65 = .ok (.if_icmp .ge 17, 3) := by decide +kernel
theorem dX11_path_68 : decode mX11_path.2.1 68 = .ok (.aload_n 0, 1) := by decide +kernel
theorem dX11_path_69 : decode mX11_path.2.1 69 = .ok (.getfield 162, 3) := by decide +kernel
theorem dX11_path_72 : decode mX11_path.2.1 72 = .ok (.iload 5, 2) := by decide +kernel
theorem dX11_path_74 : decode mX11_path.2.1 74 = .ok (.iconst (-1), 1) := by decide +kernel
theorem dX11_path_75 : decode mX11_path.2.1 75 = .ok (.iastore, 1) := by decide +kernel
theorem dX11_path_76 : decode mX11_path.2.1 76 = .ok (.iinc 5 1, 3) := by decide +kernel
theorem dX11_path_79 : decode mX11_path.2.1 79 = .ok (.goto (-19), 3) := by decide +kernel
theorem dX11_path_82 : decode mX11_path.2.1 82 = .ok (.bipush 8, 2) := by decide +kernel
theorem dX11_path_84 : decode mX11_path.2.1 84 = .ok (.bipush 40, 2) := by decide +kernel
theorem dX11_path_86 : decode mX11_path.2.1 86 = .ok (.aload_n 0, 1) := by decide +kernel
theorem dX11_path_87 : decode mX11_path.2.1 87 = .ok (.getfield 28, 3) := by decide +kernel
theorem dX11_path_90 : decode mX11_path.2.1 90 = .ok (.iload_n 1, 1) := by decide +kernel
theorem dX11_path_91 : decode mX11_path.2.1 91 = .ok (.iaload, 1) := by decide +kernel
theorem dX11_path_92 : decode mX11_path.2.1 92 = .ok (.imul, 1) := by decide +kernel
theorem dX11_path_93 : decode mX11_path.2.1 93 = .ok (.aload_n 0, 1) := by decide +kernel
theorem dX11_path_94 : decode mX11_path.2.1 94 = .ok (.getfield 31, 3) := by decide +kernel
theorem dX11_path_97 : decode mX11_path.2.1 97 = .ok (.iload_n 1, 1) := by decide +kernel
theorem dX11_path_98 : decode mX11_path.2.1 98 = .ok (.iaload, 1) := by decide +kernel
theorem dX11_path_99 : decode mX11_path.2.1 99 = .ok (.iadd, 1) := by decide +kernel
theorem dX11_path_100 : decode mX11_path.2.1 100 = .ok (.imul, 1) := by decide +kernel
theorem dX11_path_101 : decode mX11_path.2.1 101 = .ok (.aload_n 0, 1) := by decide +kernel
theorem dX11_path_102 : decode mX11_path.2.1 102 = .ok (.getfield 34, 3) := by decide +kernel
theorem dX11_path_105 : decode mX11_path.2.1 105 = .ok (.iload_n 1, 1) := by decide +kernel
theorem dX11_path_106 : decode mX11_path.2.1 106 = .ok (.iaload, 1) := by decide +kernel
theorem dX11_path_107 : decode mX11_path.2.1 107 = .ok (.iadd, 1) := by decide +kernel
theorem dX11_path_108 : decode mX11_path.2.1 108 = .ok (.istore 5, 2) := by decide +kernel
theorem dX11_path_110 : decode mX11_path.2.1 110 = .ok (.aload_n 0, 1) := by decide +kernel
theorem dX11_path_111 : decode mX11_path.2.1 111 = .ok (.getfield 162, 3) := by decide +kernel
theorem dX11_path_114 : decode mX11_path.2.1 114 = .ok (.iload 5, 2) := by decide +kernel
theorem dX11_path_116 : decode mX11_path.2.1 116 = .ok (.iload 5, 2) := by decide +kernel
theorem dX11_path_118 : decode mX11_path.2.1 118 = .ok (.iastore, 1) := by decide +kernel
theorem dX11_path_119 : decode mX11_path.2.1 119 = .ok (.aload_n 0, 1) := by decide +kernel
theorem dX11_path_120 : decode mX11_path.2.1 120 = .ok (.getfield 168, 3) := by decide +kernel
theorem dX11_path_123 : decode mX11_path.2.1 123 = .ok (.iconst 0, 1) := by decide +kernel
theorem dX11_path_124 : decode mX11_path.2.1 124 = .ok (.iload 5, 2) := by decide +kernel
theorem dX11_path_126 : decode mX11_path.2.1 126 = .ok (.iastore, 1) := by decide +kernel
theorem dX11_path_127 : decode mX11_path.2.1 127 = .ok (.iconst 1, 1) := by decide +kernel
theorem dX11_path_128 : decode mX11_path.2.1 128 = .ok (.istore 6, 2) := by decide +kernel
theorem dX11_path_130 : decode mX11_path.2.1 130 = .ok (.iconst (-1), 1) := by decide +kernel
theorem dX11_path_131 : decode mX11_path.2.1 131 = .ok (.istore 7, 2) := by decide +kernel
theorem dX11_path_133 : decode mX11_path.2.1 133 = .ok (.iconst 0, 1) := by decide +kernel
theorem dX11_path_134 : decode mX11_path.2.1 134 = .ok (.istore 8, 2) := by decide +kernel
theorem dX11_path_136 : decode mX11_path.2.1 136 = .ok (.iload 8, 2) := by decide +kernel
theorem dX11_path_138 : decode mX11_path.2.1 138 = .ok (.iload 6, 2) := by decide +kernel
theorem dX11_path_140 : decode mX11_path.2.1 140 = .ok (.if_icmp .ge 245, 3) := by decide +kernel
theorem dX11_path_143 : decode mX11_path.2.1 143 = .ok (.iload 7, 2) := by decide +kernel
theorem dX11_path_145 : decode mX11_path.2.1 145 = .ok (.ifCond .ge 240, 3) := by decide +kernel
theorem dX11_path_148 : decode mX11_path.2.1 148 = .ok (.aload_n 0, 1) := by decide +kernel
theorem dX11_path_149 : decode mX11_path.2.1 149 = .ok (.getfield 168, 3) := by decide +kernel
theorem dX11_path_152 : decode mX11_path.2.1 152 = .ok (.iload 8, 2) := by decide +kernel
theorem dX11_path_154 : decode mX11_path.2.1 154 = .ok (.iaload, 1) := by decide +kernel
theorem dX11_path_155 : decode mX11_path.2.1 155 = .ok (.istore 9, 2) := by decide +kernel
theorem dX11_path_157 : decode mX11_path.2.1 157 = .ok (.iload 9, 2) := by decide +kernel
theorem dX11_path_159 : decode mX11_path.2.1 159 = .ok (.bipush 8, 2) := by decide +kernel
theorem dX11_path_161 : decode mX11_path.2.1 161 = .ok (.idiv, 1) := by decide +kernel
theorem dX11_path_162 : decode mX11_path.2.1 162 = .ok (.bipush 40, 2) := by decide +kernel
theorem dX11_path_164 : decode mX11_path.2.1 164 = .ok (.idiv, 1) := by decide +kernel
theorem dX11_path_165 : decode mX11_path.2.1 165 = .ok (.istore 10, 2) := by decide +kernel
theorem dX11_path_167 : decode mX11_path.2.1 167 = .ok (.iload 9, 2) := by decide +kernel
theorem dX11_path_169 : decode mX11_path.2.1 169 = .ok (.bipush 8, 2) := by decide +kernel
theorem dX11_path_171 : decode mX11_path.2.1 171 = .ok (.idiv, 1) := by decide +kernel
theorem dX11_path_172 : decode mX11_path.2.1 172 = .ok (.bipush 40, 2) := by decide +kernel
theorem dX11_path_174 : decode mX11_path.2.1 174 = .ok (.irem, 1) := by decide +kernel
theorem dX11_path_175 : decode mX11_path.2.1 175 = .ok (.istore 11, 2) := by decide +kernel
theorem dX11_path_177 : decode mX11_path.2.1 177 = .ok (.iload 10, 2) := by decide +kernel
theorem dX11_path_179 : decode mX11_path.2.1 179 = .ok (.iload_n 2, 1) := by decide +kernel
theorem dX11_path_180 : decode mX11_path.2.1 180 = .ok (.if_icmp .ne 29, 3) := by decide +kernel
theorem dX11_path_183 : decode mX11_path.2.1 183 = .ok (.iload 11, 2) := by decide +kernel
theorem dX11_path_185 : decode mX11_path.2.1 185 = .ok (.iload_n 3, 1) := by decide +kernel
theorem dX11_path_186 : decode mX11_path.2.1 186 = .ok (.if_icmp .ne 23, 3) := by decide +kernel
theorem dX11_path_189 : decode mX11_path.2.1 189 = .ok (.iload 4, 2) := by decide +kernel
theorem dX11_path_191 : decode mX11_path.2.1 191 = .ok (.iconst (-1), 1) := by decide +kernel
theorem dX11_path_192 : decode mX11_path.2.1 192 = .ok (.if_icmp .eq 13, 3) := by decide +kernel
theorem dX11_path_195 : decode mX11_path.2.1 195 = .ok (.iload 9, 2) := by decide +kernel
theorem dX11_path_197 : decode mX11_path.2.1 197 = .ok (.bipush 8, 2) := by decide +kernel
theorem dX11_path_199 : decode mX11_path.2.1 199 = .ok (.irem, 1) := by decide +kernel
theorem dX11_path_200 : decode mX11_path.2.1 200 = .ok (.iload 4, 2) := by decide +kernel
theorem dX11_path_202 : decode mX11_path.2.1 202 = .ok (.if_icmp .ne 7, 3) := by decide +kernel
theorem dX11_path_205 : decode mX11_path.2.1 205 = .ok (.iload 9, 2) := by decide +kernel
theorem dX11_path_207 : decode mX11_path.2.1 207 = .ok (.istore 7, 2) := by decide +kernel
theorem dX11_path_209 : decode mX11_path.2.1 209 = .ok (.iconst 0, 1) := by decide +kernel
theorem dX11_path_210 : decode mX11_path.2.1 210 = .ok (.istore 12, 2) := by decide +kernel
theorem dX11_path_212 : decode mX11_path.2.1 212 = .ok (.iload 12, 2) := by decide +kernel
theorem dX11_path_214 : decode mX11_path.2.1 214 = .ok (.iconst 3, 1) := by decide +kernel
theorem dX11_path_215 : decode mX11_path.2.1 215 = .ok (.if_icmp .ge 164, 3) := by decide +kernel
theorem dX11_path_218 : decode mX11_path.2.1 218 = .ok (.iload 7, 2) := by decide +kernel
theorem dX11_path_220 : decode mX11_path.2.1 220 = .ok (.ifCond .ge 159, 3) := by decide +kernel
theorem dX11_path_223 : decode mX11_path.2.1 223 = .ok (.iload 9, 2) := by decide +kernel
theorem dX11_path_225 : decode mX11_path.2.1 225 = .ok (.bipush 8, 2) := by decide +kernel
theorem dX11_path_227 : decode mX11_path.2.1 227 = .ok (.irem, 1) := by decide +kernel
theorem dX11_path_228 : decode mX11_path.2.1 228 = .ok (.istore 13, 2) := by decide +kernel
theorem dX11_path_230 : decode mX11_path.2.1 230 = .ok (.iload 12, 2) := by decide +kernel
theorem dX11_path_232 : decode mX11_path.2.1 232 = .ok (.ifCond .ne 14, 3) := by decide +kernel
theorem dX11_path_235 : decode mX11_path.2.1 235 = .ok (.iload 10, 2) := by decide +kernel
theorem dX11_path_237 : decode mX11_path.2.1 237 = .ok (.iload 13, 2) := by decide +kernel
theorem dX11_path_239 : decode mX11_path.2.1 239 = .ok (.invokestatic 418, 3) := by decide +kernel
theorem dX11_path_242 : decode mX11_path.2.1 242 = .ok (.iadd, 1) := by decide +kernel
theorem dX11_path_243 : decode mX11_path.2.1 243 = .ok (.goto 5, 3) := by decide +kernel
theorem dX11_path_246 : decode mX11_path.2.1 246 = .ok (.iload 10, 2) := by decide +kernel
theorem dX11_path_248 : decode mX11_path.2.1 248 = .ok (.istore 14, 2) := by decide +kernel
theorem dX11_path_250 : decode mX11_path.2.1 250 = .ok (.iload 12, 2) := by decide +kernel
theorem dX11_path_252 : decode mX11_path.2.1 252 = .ok (.ifCond .ne 14, 3) := by decide +kernel
theorem dX11_path_255 : decode mX11_path.2.1 255 = .ok (.iload 11, 2) := by decide +kernel
theorem dX11_path_257 : decode mX11_path.2.1 257 = .ok (.iload 13, 2) := by decide +kernel
theorem dX11_path_259 : decode mX11_path.2.1 259 = .ok (.invokestatic 421, 3) := by decide +kernel
theorem dX11_path_262 : decode mX11_path.2.1 262 = .ok (.iadd, 1) := by decide +kernel
theorem dX11_path_263 : decode mX11_path.2.1 263 = .ok (.goto 5, 3) := by decide +kernel
theorem dX11_path_266 : decode mX11_path.2.1 266 = .ok (.iload 11, 2) := by decide +kernel
theorem dX11_path_268 : decode mX11_path.2.1 268 = .ok (.istore 15, 2) := by decide +kernel
theorem dX11_path_270 : decode mX11_path.2.1 270 = .ok (.bipush 8, 2) := by decide +kernel
theorem dX11_path_272 : decode mX11_path.2.1 272 = .ok (.bipush 40, 2) := by decide +kernel
theorem dX11_path_274 : decode mX11_path.2.1 274 = .ok (.iload 14, 2) := by decide +kernel
theorem dX11_path_276 : decode mX11_path.2.1 276 = .ok (.imul, 1) := by decide +kernel
theorem dX11_path_277 : decode mX11_path.2.1 277 = .ok (.iload 15, 2) := by decide +kernel
theorem dX11_path_279 : decode mX11_path.2.1 279 = .ok (.iadd, 1) := by decide +kernel
theorem dX11_path_280 : decode mX11_path.2.1 280 = .ok (.imul, 1) := by decide +kernel
theorem dX11_path_281 : decode mX11_path.2.1 281 = .ok (.iload 12, 2) := by decide +kernel
theorem dX11_path_283 : decode mX11_path.2.1 283 = .ok (.ifCond .ne 8, 3) := by decide +kernel
theorem dX11_path_286 : decode mX11_path.2.1 286 = .ok (.iload 13, 2) := by decide +kernel
theorem dX11_path_288 : decode mX11_path.2.1 288 = .ok (.goto 27, 3) := by decide +kernel
theorem dX11_path_291 : decode mX11_path.2.1 291 = .ok (.iload 12, 2) := by decide +kernel
theorem dX11_path_293 : decode mX11_path.2.1 293 = .ok (.iconst 1, 1) := by decide +kernel
theorem dX11_path_294 : decode mX11_path.2.1 294 = .ok (.if_icmp .ne 13, 3) := by decide +kernel
theorem dX11_path_297 : decode mX11_path.2.1 297 = .ok (.iload 13, 2) := by decide +kernel
theorem dX11_path_299 : decode mX11_path.2.1 299 = .ok (.iconst 1, 1) := by decide +kernel
theorem dX11_path_300 : decode mX11_path.2.1 300 = .ok (.iadd, 1) := by decide +kernel
theorem dX11_path_301 : decode mX11_path.2.1 301 = .ok (.bipush 8, 2) := by decide +kernel
theorem dX11_path_303 : decode mX11_path.2.1 303 = .ok (.irem, 1) := by decide +kernel
theorem dX11_path_304 : decode mX11_path.2.1 304 = .ok (.goto 11, 3) := by decide +kernel
theorem dX11_path_307 : decode mX11_path.2.1 307 = .ok (.iload 13, 2) := by decide +kernel
theorem dX11_path_309 : decode mX11_path.2.1 309 = .ok (.bipush 7, 2) := by decide +kernel
theorem dX11_path_311 : decode mX11_path.2.1 311 = .ok (.iadd, 1) := by decide +kernel
theorem dX11_path_312 : decode mX11_path.2.1 312 = .ok (.bipush 8, 2) := by decide +kernel
theorem dX11_path_314 : decode mX11_path.2.1 314 = .ok (.irem, 1) := by decide +kernel
theorem dX11_path_315 : decode mX11_path.2.1 315 = .ok (.iadd, 1) := by decide +kernel
theorem dX11_path_316 : decode mX11_path.2.1 316 = .ok (.istore 16, 2) := by decide +kernel
theorem dX11_path_318 : decode mX11_path.2.1 318 = .ok (.aload_n 0, 1) := by decide +kernel
theorem dX11_path_319 : decode mX11_path.2.1 319 = .ok (.iload_n 1, 1) := by decide +kernel
theorem dX11_path_320 : decode mX11_path.2.1 320 = .ok (.iload 14, 2) := by decide +kernel
theorem dX11_path_322 : decode mX11_path.2.1 322 = .ok (.iload 15, 2) := by decide +kernel
theorem dX11_path_324 : decode mX11_path.2.1 324 = .ok (.invokevirtual 501, 3) := by decide +kernel
theorem dX11_path_327 : decode mX11_path.2.1 327 = .ok (.ifCond .eq 46, 3) := by decide +kernel
theorem dX11_path_330 : decode mX11_path.2.1 330 = .ok (.aload_n 0, 1) := by decide +kernel
theorem dX11_path_331 : decode mX11_path.2.1 331 = .ok (.getfield 162, 3) := by decide +kernel
theorem dX11_path_334 : decode mX11_path.2.1 334 = .ok (.iload 16, 2) := by decide +kernel
theorem dX11_path_336 : decode mX11_path.2.1 336 = .ok (.iaload, 1) := by decide +kernel
theorem dX11_path_337 : decode mX11_path.2.1 337 = .ok (.ifCond .lt 6, 3) := by decide +kernel
theorem dX11_path_340 : decode mX11_path.2.1 340 = .ok (.goto 33, 3) := by decide +kernel
theorem dX11_path_343 : decode mX11_path.2.1 343 = .ok (.aload_n 0, 1) := by decide +kernel
theorem dX11_path_344 : decode mX11_path.2.1 344 = .ok (.getfield 162, 3) := by decide +kernel
theorem dX11_path_347 : decode mX11_path.2.1 347 = .ok (.iload 16, 2) := by decide +kernel
theorem dX11_path_349 : decode mX11_path.2.1 349 = .ok (.iload 9, 2) := by decide +kernel
theorem dX11_path_351 : decode mX11_path.2.1 351 = .ok (.iastore, 1) := by decide +kernel
theorem dX11_path_352 : decode mX11_path.2.1 352 = .ok (.aload_n 0, 1) := by decide +kernel
theorem dX11_path_353 : decode mX11_path.2.1 353 = .ok (.getfield 165, 3) := by decide +kernel
theorem dX11_path_356 : decode mX11_path.2.1 356 = .ok (.iload 16, 2) := by decide +kernel
theorem dX11_path_358 : decode mX11_path.2.1 358 = .ok (.iload 12, 2) := by decide +kernel
theorem dX11_path_360 : decode mX11_path.2.1 360 = .ok (.iastore, 1) := by decide +kernel
theorem dX11_path_361 : decode mX11_path.2.1 361 = .ok (.aload_n 0, 1) := by decide +kernel
theorem dX11_path_362 : decode mX11_path.2.1 362 = .ok (.getfield 168, 3) := by decide +kernel
theorem dX11_path_365 : decode mX11_path.2.1 365 = .ok (.iload 6, 2) := by decide +kernel
theorem dX11_path_367 : decode mX11_path.2.1 367 = .ok (.iload 16, 2) := by decide +kernel
theorem dX11_path_369 : decode mX11_path.2.1 369 = .ok (.iastore, 1) := by decide +kernel
theorem dX11_path_370 : decode mX11_path.2.1 370 = .ok (.iinc 6 1, 3) := by decide +kernel
theorem dX11_path_373 : decode mX11_path.2.1 373 = .ok (.iinc 12 1, 3) := by decide +kernel
theorem dX11_path_376 : decode mX11_path.2.1 376 = .ok (.goto (-164), 3) := by decide +kernel
theorem dX11_path_379 : decode mX11_path.2.1 379 = .ok (.iinc 8 1, 3) := by decide +kernel
theorem dX11_path_382 : decode mX11_path.2.1 382 = .ok (.goto (-246), 3) := by decide +kernel
theorem dX11_path_385 : decode mX11_path.2.1 385 = .ok (.iload 7, 2) := by decide +kernel
theorem dX11_path_387 : decode mX11_path.2.1 387 = .ok (.ifCond .ge 10, 3) := by decide +kernel
theorem dX11_path_390 : decode mX11_path.2.1 390 = .ok (.aload_n 0, 1) := by decide +kernel
theorem dX11_path_391 : decode mX11_path.2.1 391 = .ok (.bipush 8, 2) := by decide +kernel
theorem dX11_path_393 : decode mX11_path.2.1 393 = .ok (.invokevirtual 254, 3) := by decide +kernel
theorem dX11_path_396 : decode mX11_path.2.1 396 = .ok (.ireturn, 1) := by decide +kernel
theorem dX11_path_397 : decode mX11_path.2.1 397 = .ok (.iconst 0, 1) := by decide +kernel
theorem dX11_path_398 : decode mX11_path.2.1 398 = .ok (.istore 8, 2) := by decide +kernel
theorem dX11_path_400 : decode mX11_path.2.1 400 = .ok (.iload 7, 2) := by decide +kernel
theorem dX11_path_402 : decode mX11_path.2.1 402 = .ok (.istore 9, 2) := by decide +kernel
theorem dX11_path_404 : decode mX11_path.2.1 404 = .ok (.iload 9, 2) := by decide +kernel
theorem dX11_path_406 : decode mX11_path.2.1 406 = .ok (.iload 5, 2) := by decide +kernel
theorem dX11_path_408 : decode mX11_path.2.1 408 = .ok (.if_icmp .eq 18, 3) := by decide +kernel
theorem dX11_path_411 : decode mX11_path.2.1 411 = .ok (.iinc 8 1, 3) := by decide +kernel
theorem dX11_path_414 : decode mX11_path.2.1 414 = .ok (.aload_n 0, 1) := by decide +kernel
theorem dX11_path_415 : decode mX11_path.2.1 415 = .ok (.getfield 162, 3) := by decide +kernel
theorem dX11_path_418 : decode mX11_path.2.1 418 = .ok (.iload 9, 2) := by decide +kernel
theorem dX11_path_420 : decode mX11_path.2.1 420 = .ok (.iaload, 1) := by decide +kernel
theorem dX11_path_421 : decode mX11_path.2.1 421 = .ok (.istore 9, 2) := by decide +kernel
theorem dX11_path_423 : decode mX11_path.2.1 423 = .ok (.goto (-19), 3) := by decide +kernel
theorem dX11_path_426 : decode mX11_path.2.1 426 = .ok (.aload_n 0, 1) := by decide +kernel
theorem dX11_path_427 : decode mX11_path.2.1 427 = .ok (.iload 8, 2) := by decide +kernel
theorem dX11_path_429 : decode mX11_path.2.1 429 = .ok (.putfield 174, 3) := by decide +kernel
theorem dX11_path_432 : decode mX11_path.2.1 432 = .ok (.iload 7, 2) := by decide +kernel
theorem dX11_path_434 : decode mX11_path.2.1 434 = .ok (.istore 9, 2) := by decide +kernel
theorem dX11_path_436 : decode mX11_path.2.1 436 = .ok (.iload 9, 2) := by decide +kernel
theorem dX11_path_438 : decode mX11_path.2.1 438 = .ok (.iload 5, 2) := by decide +kernel
theorem dX11_path_440 : decode mX11_path.2.1 440 = .ok (.if_icmp .eq 32, 3) := by decide +kernel
theorem dX11_path_443 : decode mX11_path.2.1 443 = .ok (.iinc 8 (-1), 3) := by decide +kernel
theorem dX11_path_446 : decode mX11_path.2.1 446 = .ok (.aload_n 0, 1) := by decide +kernel
theorem dX11_path_447 : decode mX11_path.2.1 447 = .ok (.getfield 171, 3) := by decide +kernel
theorem dX11_path_450 : decode mX11_path.2.1 450 = .ok (.iload 8, 2) := by decide +kernel
theorem dX11_path_452 : decode mX11_path.2.1 452 = .ok (.aload_n 0, 1) := by decide +kernel
theorem dX11_path_453 : decode mX11_path.2.1 453 = .ok (.getfield 165, 3) := by decide +kernel
theorem dX11_path_456 : decode mX11_path.2.1 456 = .ok (.iload 9, 2) := by decide +kernel
theorem dX11_path_458 : decode mX11_path.2.1 458 = .ok (.iaload, 1) := by decide +kernel
theorem dX11_path_459 : decode mX11_path.2.1 459 = .ok (.iastore, 1) := by decide +kernel
theorem dX11_path_460 : decode mX11_path.2.1 460 = .ok (.aload_n 0, 1) := by decide +kernel
theorem dX11_path_461 : decode mX11_path.2.1 461 = .ok (.getfield 162, 3) := by decide +kernel
theorem dX11_path_464 : decode mX11_path.2.1 464 = .ok (.iload 9, 2) := by decide +kernel
theorem dX11_path_466 : decode mX11_path.2.1 466 = .ok (.iaload, 1) := by decide +kernel
theorem dX11_path_467 : decode mX11_path.2.1 467 = .ok (.istore 9, 2) := by decide +kernel
theorem dX11_path_469 : decode mX11_path.2.1 469 = .ok (.goto (-33), 3) := by decide +kernel
theorem dX11_path_472 : decode mX11_path.2.1 472 = .ok (.aload_n 0, 1) := by decide +kernel
theorem dX11_path_473 : decode mX11_path.2.1 473 = .ok (.getfield 174, 3) := by decide +kernel
theorem dX11_path_476 : decode mX11_path.2.1 476 = .ok (.ireturn, 1) := by decide +kernel
theorem dX11_move_0 : decode mX11_move.2.1 0 = .ok (.aload_n 0, 1) := by decide +kernel
theorem dX11_move_1 : decode mX11_move.2.1 1 = .ok (.iconst 0, 1) := by decide +kernel
theorem dX11_move_2 : decode mX11_move.2.1 2 = .ok (.putfield 213, 3) := by decide +kernel
theorem dX11_move_5 : decode mX11_move.2.1 5 = .ok (.aload_n 0, 1) := by decide +kernel
theorem dX11_move_6 : decode mX11_move.2.1 6 = .ok (.iconst 0, 1) := by decide +kernel
theorem dX11_move_7 : decode mX11_move.2.1 7 = .ok (.putfield 216, 3) := by decide +kernel
theorem dX11_move_10 : decode mX11_move.2.1 10 = .ok (.iload_n 1, 1) := by decide +kernel
theorem dX11_move_11 : decode mX11_move.2.1 11 = .ok (.i2l, 1) := by decide +kernel
theorem dX11_move_12 : decode mX11_move.2.1 12 = .ok (.lconst 0, 1) := by decide +kernel
theorem dX11_move_13 : decode mX11_move.2.1 13 = .ok (.aload_n 0, 1) := by decide +kernel
theorem dX11_move_14 : decode mX11_move.2.1 14 = .ok (.getfield 174, 3) := by decide +kernel
theorem dX11_move_17 : decode mX11_move.2.1 17 = .ok (.iconst 1, 1) := by decide +kernel
theorem dX11_move_18 : decode mX11_move.2.1 18 = .ok (.isub, 1) := by decide +kernel
theorem dX11_move_19 : decode mX11_move.2.1 19 = .ok (.i2l, 1) := by decide +kernel
theorem dX11_move_20 : decode mX11_move.2.1 20 = .ok (.invokestatic 221, 3) := by decide +kernel
theorem dX11_move_23 : decode mX11_move.2.1 23 = .ok (.ifCond .eq 12, 3) := by decide +kernel
theorem dX11_move_26 : decode mX11_move.2.1 26 = .ok (.aload_n 0, 1) := by decide +kernel
theorem dX11_move_27 : decode mX11_move.2.1 27 = .ok (.getfield 171, 3) := by decide +kernel
theorem dX11_move_30 : decode mX11_move.2.1 30 = .ok (.iload_n 1, 1) := by decide +kernel
theorem dX11_move_31 : decode mX11_move.2.1 31 = .ok (.iaload, 1) := by decide +kernel
theorem dX11_move_32 : decode mX11_move.2.1 32 = .ok (.goto 9, 3) := by decide +kernel
theorem dX11_move_35 : decode mX11_move.2.1 35 = .ok (.aload_n 0, 1) := by decide +kernel
theorem dX11_move_36 : decode mX11_move.2.1 36 = .ok (.bipush 8, 2) := by decide +kernel
theorem dX11_move_38 : decode mX11_move.2.1 38 = .ok (.invokevirtual 254, 3) := by decide +kernel
theorem dX11_move_41 : decode mX11_move.2.1 41 = .ok (.ireturn, 1) := by decide +kernel
theorem dX11_isPerson_0 : decode mX11_isPerson.2.1 0 = .ok (.iload_n 1, 1) := by decide +kernel
theorem dX11_isPerson_1 : decode mX11_isPerson.2.1 1 = .ok (.i2l, 1) := by decide +kernel
theorem dX11_isPerson_2 : decode mX11_isPerson.2.1 2 = .ok (.lconst 0, 1) := by decide +kernel
theorem dX11_isPerson_3 : decode mX11_isPerson.2.1 3 = .ok (.aload_n 0, 1) := by decide +kernel
theorem dX11_isPerson_4 : decode mX11_isPerson.2.1 4 = .ok (.getfield 504, 3) := by decide +kernel
theorem dX11_isPerson_7 : decode mX11_isPerson.2.1 7 = .ok (.iconst 1, 1) := by decide +kernel
theorem dX11_isPerson_8 : decode mX11_isPerson.2.1 8 = .ok (.isub, 1) := by decide +kernel
theorem dX11_isPerson_9 : decode mX11_isPerson.2.1 9 = .ok (.i2l, 1) := by decide +kernel
theorem dX11_isPerson_10 : decode mX11_isPerson.2.1 10 = .ok (.invokestatic 221, 3) := by decide +kernel
theorem dX11_isPerson_13 : decode mX11_isPerson.2.1 13 = .ok (.ireturn, 1) := by decide +kernel
theorem dX11_isDay_0 : decode mX11_isDay.2.1 0 = .ok (.iload_n 0, 1) := by decide +kernel
theorem dX11_isDay_1 : decode mX11_isDay.2.1 1 = .ok (.i2l, 1) := by decide +kernel
theorem dX11_isDay_2 : decode mX11_isDay.2.1 2 = .ok (.lconst 0, 1) := by decide +kernel
theorem dX11_isDay_3 : decode mX11_isDay.2.1 3 = .ok (.ldc2_w 507, 3) := by decide +kernel
theorem dX11_isDay_6 : decode mX11_isDay.2.1 6 = .ok (.invokestatic 221, 3) := by decide +kernel
theorem dX11_isDay_9 : decode mX11_isDay.2.1 9 = .ok (.ireturn, 1) := by decide +kernel
theorem dX11_person_0 : decode mX11_person.2.1 0 = .ok (.aload_n 0, 1) := by decide +kernel
theorem dX11_person_1 : decode mX11_person.2.1 1 = .ok (.iconst 0, 1) := by decide +kernel
theorem dX11_person_2 : decode mX11_person.2.1 2 = .ok (.putfield 213, 3) := by decide +kernel
theorem dX11_person_5 : decode mX11_person.2.1 5 = .ok (.aload_n 0, 1) := by decide +kernel
theorem dX11_person_6 : decode mX11_person.2.1 6 = .ok (.iconst 0, 1) := by decide +kernel
theorem dX11_person_7 : decode mX11_person.2.1 7 = .ok (.putfield 216, 3) := by decide +kernel
theorem dX11_person_10 : decode mX11_person.2.1 10 = .ok (.iload_n 1, 1) := by decide +kernel
theorem dX11_person_11 : decode mX11_person.2.1 11 = .ok (.ifCond .lt 13, 3) := by decide +kernel
theorem dX11_person_14 : decode mX11_person.2.1 14 = .ok (.iload_n 1, 1) := by decide +kernel
theorem dX11_person_15 : decode mX11_person.2.1 15 = .ok (.iconst 1, 1) := by decide +kernel
theorem dX11_person_16 : decode mX11_person.2.1 16 = .ok (.aload_n 0, 1) := by decide +kernel
theorem dX11_person_17 : decode mX11_person.2.1 17 = .ok (.getfield 245, 3) := by decide +kernel
theorem dX11_person_20 : decode mX11_person.2.1 20 = .ok (.ishl, 1) := by decide +kernel
theorem dX11_person_21 : decode mX11_person.2.1 21 = .ok (.if_icmp .lt 9, 3) := by decide +kernel
theorem dX11_person_24 : decode mX11_person.2.1 24 = .ok (.aload_n 0, 1) := by decide +kernel
theorem dX11_person_25 : decode mX11_person.2.1 25 = .ok (.iconst 5, 1) := by decide +kernel
theorem dX11_person_26 : decode mX11_person.2.1 26 = .ok (.invokevirtual 254, 3) := by decide +kernel
theorem dX11_person_29 : decode mX11_person.2.1 29 = .ok (.ireturn, 1) := by decide +kernel
theorem dX11_person_30 : decode mX11_person.2.1 30 = .ok (.aload_n 0, 1) := by decide +kernel
theorem dX11_person_31 : decode mX11_person.2.1 31 = .ok (.getfield 504, 3) := by decide +kernel
theorem dX11_person_34 : decode mX11_person.2.1 34 = .ok (.bipush 16, 2) := by decide +kernel
theorem dX11_person_36 : decode mX11_person.2.1 36 = .ok (.if_icmp .ne 10, 3) := by decide +kernel
theorem dX11_person_39 : decode mX11_person.2.1 39 = .ok (.aload_n 0, 1) := by decide +kernel
theorem dX11_person_40 : decode mX11_person.2.1 40 = .ok (.bipush 7, 2) := by decide +kernel
theorem dX11_person_42 : decode mX11_person.2.1 42 = .ok (.invokevirtual 254, 3) := by decide +kernel
theorem dX11_person_45 : decode mX11_person.2.1 45 = .ok (.ireturn, 1) := by decide +kernel
theorem dX11_person_46 : decode mX11_person.2.1 46 = .ok (.aload_n 0, 1) := by decide +kernel
theorem dX11_person_47 : decode mX11_person.2.1 47 = .ok (.getfield 177, 3) := by decide +kernel
theorem dX11_person_50 : decode mX11_person.2.1 50 = .ok (.aload_n 0, 1) := by decide +kernel
theorem dX11_person_51 : decode mX11_person.2.1 51 = .ok (.getfield 504, 3) := by decide +kernel
theorem dX11_person_54 : decode mX11_person.2.1 54 = .ok (.iload_n 1, 1) := by decide +kernel
theorem dX11_person_55 : decode mX11_person.2.1 55 = .ok (.iastore, 1) := by decide +kernel
theorem dX11_person_56 : decode mX11_person.2.1 56 = .ok (.aload_n 0, 1) := by decide +kernel
theorem dX11_person_57 : decode mX11_person.2.1 57 = .ok (.dup, 1) := by decide +kernel
theorem dX11_person_58 : decode mX11_person.2.1 58 = .ok (.getfield 504, 3) := by decide +kernel
theorem dX11_person_61 : decode mX11_person.2.1 61 = .ok (.iconst 1, 1) := by decide +kernel
theorem dX11_person_62 : decode mX11_person.2.1 62 = .ok (.iadd, 1) := by decide +kernel
theorem dX11_person_63 : decode mX11_person.2.1 63 = .ok (.putfield 504, 3) := by decide +kernel
theorem dX11_person_66 : decode mX11_person.2.1 66 = .ok (.aload_n 0, 1) := by decide +kernel
theorem dX11_person_67 : decode mX11_person.2.1 67 = .ok (.getfield 504, 3) := by decide +kernel
theorem dX11_person_70 : decode mX11_person.2.1 70 = .ok (.iconst 1, 1) := by decide +kernel
theorem dX11_person_71 : decode mX11_person.2.1 71 = .ok (.isub, 1) := by decide +kernel
theorem dX11_person_72 : decode mX11_person.2.1 72 = .ok (.ireturn, 1) := by decide +kernel
theorem dX11_away_0 : decode mX11_away.2.1 0 = .ok (.aload_n 0, 1) := by decide +kernel
theorem dX11_away_1 : decode mX11_away.2.1 1 = .ok (.iconst 0, 1) := by decide +kernel
theorem dX11_away_2 : decode mX11_away.2.1 2 = .ok (.putfield 213, 3) := by decide +kernel
theorem dX11_away_5 : decode mX11_away.2.1 5 = .ok (.aload_n 0, 1) := by decide +kernel
theorem dX11_away_6 : decode mX11_away.2.1 6 = .ok (.iconst 0, 1) := by decide +kernel
theorem dX11_away_7 : decode mX11_away.2.1 7 = .ok (.putfield 216, 3) := by decide +kernel
theorem dX11_away_10 : decode mX11_away.2.1 10 = .ok (.aload_n 0, 1) := by decide +kernel
theorem dX11_away_11 : decode mX11_away.2.1 11 = .ok (.iload_n 1, 1) := by decide +kernel
theorem dX11_away_12 : decode mX11_away.2.1 12 = .ok (.invokevirtual 509, 3) := by decide +kernel
theorem dX11_away_15 : decode mX11_away.2.1 15 = .ok (.ifCond .ne 9, 3) := by decide +kernel
theorem dX11_away_18 : decode mX11_away.2.1 18 = .ok (.aload_n 0, 1) := by decide +kernel
theorem dX11_away_19 : decode mX11_away.2.1 19 = .ok (.iconst 2, 1) := by decide +kernel
theorem dX11_away_20 : decode mX11_away.2.1 20 = .ok (.invokevirtual 227, 3) := by decide +kernel
theorem dX11_away_23 : decode mX11_away.2.1 23 = .ok (.ireturn, 1) := by decide +kernel
theorem dX11_away_24 : decode mX11_away.2.1 24 = .ok (.iload_n 2, 1) := by decide +kernel
theorem dX11_away_25 : decode mX11_away.2.1 25 = .ok (.invokestatic 512, 3) := by decide +kernel
theorem dX11_away_28 : decode mX11_away.2.1 28 = .ok (.ifCond .eq 23, 3) := by decide +kernel
theorem dX11_away_31 : decode mX11_away.2.1 31 = .ok (.iload_n 3, 1) := by decide +kernel
theorem dX11_away_32 : decode mX11_away.2.1 32 = .ok (.invokestatic 512, 3) := by decide +kernel
theorem dX11_away_35 : decode mX11_away.2.1 35 = .ok (.ifCond .eq 16, 3) := by decide +kernel
theorem dX11_away_38 : decode mX11_away.2.1 38 = .ok (.iload_n 3, 1) := by decide +kernel
theorem dX11_away_39 : decode mX11_away.2.1 39 = .ok (.iload_n 2, 1) := by decide +kernel
theorem dX11_away_40 : decode mX11_away.2.1 40 = .ok (.if_icmp .lt 11, 3) := by decide +kernel
theorem dX11_away_43 : decode mX11_away.2.1 43 = .ok (.iload 4, 2) := by decide +kernel
theorem dX11_away_45 : decode mX11_away.2.1 45 = .ok (.invokestatic 512, 3) := by decide +kernel
theorem dX11_away_48 : decode mX11_away.2.1 48 = .ok (.ifCond .ne 9, 3) := by decide +kernel
theorem dX11_away_51 : decode mX11_away.2.1 51 = .ok (.aload_n 0, 1) := by decide +kernel
theorem dX11_away_52 : decode mX11_away.2.1 52 = .ok (.iconst 5, 1) := by decide +kernel
theorem dX11_away_53 : decode mX11_away.2.1 53 = .ok (.invokevirtual 227, 3) := by decide +kernel
theorem dX11_away_56 : decode mX11_away.2.1 56 = .ok (.ireturn, 1) := by decide +kernel
theorem dX11_away_57 : decode mX11_away.2.1 57 = .ok (.aload_n 0, 1) := by decide +kernel
theorem dX11_away_58 : decode mX11_away.2.1 58 = .ok (.getfield 515, 3) := by decide +kernel
theorem dX11_away_61 : decode mX11_away.2.1 61 = .ok (.bipush 60, 2) := by decide +kernel
theorem dX11_away_63 : decode mX11_away.2.1 63 = .ok (.if_icmp .ne 10, 3) := by decide +kernel
theorem dX11_away_66 : decode mX11_away.2.1 66 = .ok (.aload_n 0, 1) := by decide +kernel
theorem dX11_away_67 : decode mX11_away.2.1 67 = .ok (.bipush 7, 2) := by decide +kernel
theorem dX11_away_69 : decode mX11_away.2.1 69 = .ok (.invokevirtual 227, 3) := by decide +kernel
theorem dX11_away_72 : decode mX11_away.2.1 72 = .ok (.ireturn, 1) := by decide +kernel
theorem dX11_away_73 : decode mX11_away.2.1 73 = .ok (.iload 4, 2) := by decide +kernel
theorem dX11_away_75 : decode mX11_away.2.1 75 = .ok (.aload_n 0, 1) := by decide +kernel
theorem dX11_away_76 : decode mX11_away.2.1 76 = .ok (.getfield 518, 3) := by decide +kernel
theorem dX11_away_79 : decode mX11_away.2.1 79 = .ok (.if_icmp .ge 10, 3) := by decide +kernel
theorem dX11_away_82 : decode mX11_away.2.1 82 = .ok (.aload_n 0, 1) := by decide +kernel
theorem dX11_away_83 : decode mX11_away.2.1 83 = .ok (.bipush 12, 2) := by decide +kernel
theorem dX11_away_85 : decode mX11_away.2.1 85 = .ok (.invokevirtual 227, 3) := by decide +kernel
theorem dX11_away_88 : decode mX11_away.2.1 88 = .ok (.ireturn, 1) := by decide +kernel
theorem dX11_away_89 : decode mX11_away.2.1 89 = .ok (.aload_n 0, 1) := by decide +kernel
theorem dX11_away_90 : decode mX11_away.2.1 90 = .ok (.getfield 180, 3) := by decide +kernel
theorem dX11_away_93 : decode mX11_away.2.1 93 = .ok (.aload_n 0, 1) := by decide +kernel
theorem dX11_away_94 : decode mX11_away.2.1 94 = .ok (.getfield 515, 3) := by decide +kernel
theorem dX11_away_97 : decode mX11_away.2.1 97 = .ok (.iload_n 1, 1) := by decide +kernel
theorem dX11_away_98 : decode mX11_away.2.1 98 = .ok (.iastore, 1) := by decide +kernel
theorem dX11_away_99 : decode mX11_away.2.1 99 = .ok (.aload_n 0, 1) := by decide +kernel
theorem dX11_away_100 : decode mX11_away.2.1 100 = .ok (.getfield 183, 3) := by decide +kernel
theorem dX11_away_103 : decode mX11_away.2.1 103 = .ok (.aload_n 0, 1) := by decide +kernel
theorem dX11_away_104 : decode mX11_away.2.1 104 = .ok (.getfield 515, 3) := by decide +kernel
theorem dX11_away_107 : decode mX11_away.2.1 107 = .ok (.iload_n 2, 1) := by decide +kernel
theorem dX11_away_108 : decode mX11_away.2.1 108 = .ok (.iastore, 1) := by decide +kernel
theorem dX11_away_109 : decode mX11_away.2.1 109 = .ok (.aload_n 0, 1) := by decide +kernel
theorem dX11_away_110 : decode mX11_away.2.1 110 = .ok (.getfield 186, 3) := by decide +kernel
theorem dX11_away_113 : decode mX11_away.2.1 113 = .ok (.aload_n 0, 1) := by decide +kernel
theorem dX11_away_114 : decode mX11_away.2.1 114 = .ok (.getfield 515, 3) := by decide +kernel
theorem dX11_away_117 : decode mX11_away.2.1 117 = .ok (.iload_n 3, 1) := by decide +kernel
theorem dX11_away_118 : decode mX11_away.2.1 118 = .ok (.iastore, 1) := by decide +kernel
theorem dX11_away_119 : decode mX11_away.2.1 119 = .ok (.aload_n 0, 1) := by decide +kernel
theorem dX11_away_120 : decode mX11_away.2.1 120 = .ok (.getfield 189, 3) := by decide +kernel
theorem dX11_away_123 : decode mX11_away.2.1 123 = .ok (.aload_n 0, 1) := by decide +kernel
theorem dX11_away_124 : decode mX11_away.2.1 124 = .ok (.getfield 515, 3) := by decide +kernel
theorem dX11_away_127 : decode mX11_away.2.1 127 = .ok (.iload 4, 2) := by decide +kernel
theorem dX11_away_129 : decode mX11_away.2.1 129 = .ok (.iastore, 1) := by decide +kernel
theorem dX11_away_130 : decode mX11_away.2.1 130 = .ok (.aload_n 0, 1) := by decide +kernel
theorem dX11_away_131 : decode mX11_away.2.1 131 = .ok (.dup, 1) := by decide +kernel
theorem dX11_away_132 : decode mX11_away.2.1 132 = .ok (.getfield 515, 3) := by decide +kernel
theorem dX11_away_135 : decode mX11_away.2.1 135 = .ok (.iconst 1, 1) := by decide +kernel
theorem dX11_away_136 : decode mX11_away.2.1 136 = .ok (.iadd, 1) := by decide +kernel
theorem dX11_away_137 : decode mX11_away.2.1 137 = .ok (.putfield 515, 3) := by decide +kernel
theorem dX11_away_140 : decode mX11_away.2.1 140 = .ok (.aload_n 0, 1) := by decide +kernel
theorem dX11_away_141 : decode mX11_away.2.1 141 = .ok (.iload 4, 2) := by decide +kernel
theorem dX11_away_143 : decode mX11_away.2.1 143 = .ok (.putfield 518, 3) := by decide +kernel
theorem dX11_away_146 : decode mX11_away.2.1 146 = .ok (.iconst 1, 1) := by decide +kernel
theorem dX11_away_147 : decode mX11_away.2.1 147 = .ok (.ireturn, 1) := by decide +kernel
theorem dX11_fills_0 : decode mX11_fills.2.1 0 = .ok (.iconst 0, 1) := by decide +kernel
theorem dX11_fills_1 : decode mX11_fills.2.1 1 = .ok (.istore_n 2, 1) := by decide +kernel
theorem dX11_fills_2 : decode mX11_fills.2.1 2 = .ok (.iload_n 2, 1) := by decide +kernel
theorem dX11_fills_3 : decode mX11_fills.2.1 3 = .ok (.aload_n 0, 1) := by decide +kernel
theorem dX11_fills_4 : decode mX11_fills.2.1 4 = .ok (.getfield 504, 3) := by decide +kernel
theorem dX11_fills_7 : decode mX11_fills.2.1 7 = .ok (.if_icmp .ge 93, 3) := by decide +kernel
theorem dX11_fills_10 : decode mX11_fills.2.1 10 = .ok (.aload_n 0, 1) := by decide +kernel
theorem dX11_fills_11 : decode mX11_fills.2.1 11 = .ok (.getfield 198, 3) := by decide +kernel
theorem dX11_fills_14 : decode mX11_fills.2.1 14 = .ok (.iload_n 2, 1) := by decide +kernel
theorem dX11_fills_15 : decode mX11_fills.2.1 15 = .ok (.baload, 1) := by decide +kernel
theorem dX11_fills_16 : decode mX11_fills.2.1 16 = .ok (.ifCond .eq 78, 3) := by decide +kernel
theorem dX11_fills_19 : decode mX11_fills.2.1 19 = .ok (.aload_n 0, 1) := by decide +kernel
theorem dX11_fills_20 : decode mX11_fills.2.1 20 = .ok (.getfield 201, 3) := by decide +kernel
theorem dX11_fills_23 : decode mX11_fills.2.1 23 = .ok (.iload_n 2, 1) := by decide +kernel
theorem dX11_fills_24 : decode mX11_fills.2.1 24 = .ok (.baload, 1) := by decide +kernel
theorem dX11_fills_25 : decode mX11_fills.2.1 25 = .ok (.ifCond .ne 69, 3) := by decide +kernel
theorem dX11_fills_28 : decode mX11_fills.2.1 28 = .ok (.aload_n 0, 1) := by decide +kernel
theorem dX11_fills_29 : decode mX11_fills.2.1 29 = .ok (.getfield 204, 3) := by decide +kernel
theorem dX11_fills_32 : decode mX11_fills.2.1 32 = .ok (.iload_n 2, 1) := by decide +kernel
theorem dX11_fills_33 : decode mX11_fills.2.1 33 = .ok (.baload, 1) := by decide +kernel
theorem dX11_fills_34 : decode mX11_fills.2.1 34 = .ok (.ifCond .ne 60, 3) := by decide +kernel
theorem dX11_fills_37 : decode mX11_fills.2.1 37 = .ok (.aload_n 0, 1) := by decide +kernel
theorem dX11_fills_38 : decode mX11_fills.2.1 38 = .ok (.getfield 177, 3) := by decide +kernel
theorem dX11_fills_41 : decode mX11_fills.2.1 41 = .ok (.iload_n 2, 1) := by decide +kernel
theorem dX11_fills_42 : decode mX11_fills.2.1 42 = .ok (.iaload, 1) := by decide +kernel
theorem dX11_fills_43 : decode mX11_fills.2.1 43 = .ok (.iload_n 1, 1) := by decide +kernel
theorem dX11_fills_44 : decode mX11_fills.2.1 44 = .ok (.ishr, 1) := by decide +kernel
theorem dX11_fills_45 : decode mX11_fills.2.1 45 = .ok (.iconst 1, 1) := by decide +kernel
theorem dX11_fills_46 : decode mX11_fills.2.1 46 = .ok (.iand, 1) := by decide +kernel
theorem dX11_fills_47 : decode mX11_fills.2.1 47 = .ok (.ifCond .ne 6, 3) := by decide +kernel
theorem dX11_fills_50 : decode mX11_fills.2.1 50 = .ok (.goto 44, 3) := by decide +kernel
theorem dX11_fills_53 : decode mX11_fills.2.1 53 = .ok (.aload_n 0, 1) := by decide +kernel
theorem dX11_fills_54 : decode mX11_fills.2.1 54 = .ok (.getfield 204, 3) := by decide +kernel
theorem dX11_fills_57 : decode mX11_fills.2.1 57 = .ok (.iload_n 2, 1) := by decide +kernel
theorem dX11_fills_58 : decode mX11_fills.2.1 58 = .ok (.iconst 1, 1) := by decide +kernel
theorem dX11_fills_59 : decode mX11_fills.2.1 59 = .ok (.bastore, 1) := by decide +kernel
theorem dX11_fills_60 : decode mX11_fills.2.1 60 = .ok (.aload_n 0, 1) := by decide +kernel
theorem dX11_fills_61 : decode mX11_fills.2.1 61 = .ok (.getfield 195, 3) := by decide +kernel
theorem dX11_fills_64 : decode mX11_fills.2.1 64 = .ok (.iload_n 2, 1) := by decide +kernel
theorem dX11_fills_65 : decode mX11_fills.2.1 65 = .ok (.iaload, 1) := by decide +kernel
theorem dX11_fills_66 : decode mX11_fills.2.1 66 = .ok (.ifCond .lt 19, 3) := by decide +kernel
theorem dX11_fills_69 : decode mX11_fills.2.1 69 = .ok (.aload_n 0, 1) := by decide +kernel
theorem dX11_fills_70 : decode mX11_fills.2.1 70 = .ok (.aload_n 0, 1) := by decide +kernel
theorem dX11_fills_71 : decode mX11_fills.2.1 71 = .ok (.getfield 195, 3) := by decide +kernel
theorem dX11_fills_74 : decode mX11_fills.2.1 74 = .ok (.iload_n 2, 1) := by decide +kernel
theorem dX11_fills_75 : decode mX11_fills.2.1 75 = .ok (.iaload, 1) := by decide +kernel
theorem dX11_fills_76 : decode mX11_fills.2.1 76 = .ok (.invokevirtual 521, 3) := by decide +kernel
theorem dX11_fills_79 : decode mX11_fills.2.1 79 = .ok (.ifCond .ne 6, 3) := by decide +kernel
theorem dX11_fills_82 : decode mX11_fills.2.1 82 = .ok (.goto 12, 3) := by decide +kernel
theorem dX11_fills_85 : decode mX11_fills.2.1 85 = .ok (.aload_n 0, 1) := by decide +kernel
theorem dX11_fills_86 : decode mX11_fills.2.1 86 = .ok (.getfield 195, 3) := by decide +kernel
theorem dX11_fills_89 : decode mX11_fills.2.1 89 = .ok (.iload_n 2, 1) := by decide +kernel
theorem dX11_fills_90 : decode mX11_fills.2.1 90 = .ok (.iload_n 1, 1) := by decide +kernel
theorem dX11_fills_91 : decode mX11_fills.2.1 91 = .ok (.iastore, 1) := by decide +kernel
theorem dX11_fills_92 : decode mX11_fills.2.1 92 = .ok (.iconst 1, 1) := by decide +kernel
theorem dX11_fills_93 : decode mX11_fills.2.1 93 = .ok (.ireturn, 1) := by decide +kernel
theorem dX11_fills_94 : decode mX11_fills.2.1 94 = .ok (.iinc 2 1, 3) := by decide +kernel
theorem dX11_fills_97 : decode mX11_fills.2.1 97 = .ok (.goto (-95), 3) := by decide +kernel
theorem dX11_fills_100 : decode mX11_fills.2.1 100 = .ok (.iconst 0, 1) := by decide +kernel
theorem dX11_fills_101 : decode mX11_fills.2.1 101 = .ok (.ireturn, 1) := by decide +kernel
theorem dX11_mostFrom_0 : decode mX11_mostFrom.2.1 0 = .ok (.iconst 0, 1) := by decide +kernel
theorem dX11_mostFrom_1 : decode mX11_mostFrom.2.1 1 = .ok (.istore_n 2, 1) := by decide +kernel
theorem dX11_mostFrom_2 : decode mX11_mostFrom.2.1 2 = .ok (.iload_n 2, 1) := by decide +kernel
theorem dX11_mostFrom_3 : decode mX11_mostFrom.2.1 3 = .ok (.aload_n 0, 1) := by decide +kernel
theorem dX11_mostFrom_4 : decode mX11_mostFrom.2.1 4 = .ok (.getfield 504, 3) := by decide +kernel
theorem dX11_mostFrom_7 : decode mX11_mostFrom.2.1 7 = .ok (.if_icmp .ge 16, 3) := by decide +kernel
theorem dX11_mostFrom_10 : decode mX11_mostFrom.2.1 10 = .ok (.aload_n 0, 1) := by decide +kernel
theorem dX11_mostFrom_11 : decode mX11_mostFrom.2.1 11 = .ok (.getfield 195, 3) := by decide +kernel
theorem dX11_mostFrom_14 : decode mX11_mostFrom.2.1 14 = .ok (.iload_n 2, 1) := by decide +kernel
theorem dX11_mostFrom_15 : decode mX11_mostFrom.2.1 15 = .ok (.iconst (-1), 1) := by decide +kernel
theorem dX11_mostFrom_16 : decode mX11_mostFrom.2.1 16 = .ok (.iastore, 1) := by decide +kernel
theorem dX11_mostFrom_17 : decode mX11_mostFrom.2.1 17 = .ok (.iinc 2 1, 3) := by decide +kernel
theorem dX11_mostFrom_20 : decode mX11_mostFrom.2.1 20 = .ok (.goto (-18), 3) := by decide +kernel
theorem dX11_mostFrom_23 : decode mX11_mostFrom.2.1 23 = .ok (.iconst 0, 1) := by decide +kernel
theorem dX11_mostFrom_24 : decode mX11_mostFrom.2.1 24 = .ok (.istore_n 2, 1) := by decide +kernel
theorem dX11_mostFrom_25 : decode mX11_mostFrom.2.1 25 = .ok (.iload_n 1, 1) := by decide +kernel
theorem dX11_mostFrom_26 : decode mX11_mostFrom.2.1 26 = .ok (.istore_n 3, 1) := by decide +kernel
theorem dX11_mostFrom_27 : decode mX11_mostFrom.2.1 27 = .ok (.iload_n 3, 1) := by decide +kernel
theorem dX11_mostFrom_28 : decode mX11_mostFrom.2.1 28 = .ok (.aload_n 0, 1) := by decide +kernel
theorem dX11_mostFrom_29 : decode mX11_mostFrom.2.1 29 = .ok (.getfield 245, 3) := by decide +kernel
theorem dX11_mostFrom_32 : decode mX11_mostFrom.2.1 32 = .ok (.if_icmp .ge 51, 3) := by decide +kernel
theorem dX11_mostFrom_35 : decode mX11_mostFrom.2.1 35 = .ok (.iconst 0, 1) := by decide +kernel
theorem dX11_mostFrom_36 : decode mX11_mostFrom.2.1 36 = .ok (.istore 4, 2) := by decide +kernel
theorem dX11_mostFrom_38 : decode mX11_mostFrom.2.1 38 = .ok (.iload 4, 2) := by decide +kernel
theorem dX11_mostFrom_40 : decode mX11_mostFrom.2.1 40 = .ok (.aload_n 0, 1) := by decide +kernel
theorem dX11_mostFrom_41 : decode mX11_mostFrom.2.1 41 = .ok (.getfield 504, 3) := by decide +kernel
theorem dX11_mostFrom_44 : decode mX11_mostFrom.2.1 44 = .ok (.if_icmp .ge 17, 3) := by decide +kernel
theorem dX11_mostFrom_47 : decode mX11_mostFrom.2.1 47 = .ok (.aload_n 0, 1) := by decide +kernel
theorem dX11_mostFrom_48 : decode mX11_mostFrom.2.1 48 = .ok (.getfield 204, 3) := by decide +kernel
theorem dX11_mostFrom_51 : decode mX11_mostFrom.2.1 51 = .ok (.iload 4, 2) := by decide +kernel
theorem dX11_mostFrom_53 : decode mX11_mostFrom.2.1 53 = .ok (.iconst 0, 1) := by decide +kernel
theorem dX11_mostFrom_54 : decode mX11_mostFrom.2.1 54 = .ok (.bastore, 1) := by decide +kernel
theorem dX11_mostFrom_55 : decode mX11_mostFrom.2.1 55 = .ok (.iinc 4 1, 3) := by decide +kernel
theorem dX11_mostFrom_58 : decode mX11_mostFrom.2.1 58 = .ok (.goto (-20), 3) := by decide +kernel
theorem dX11_mostFrom_61 : decode mX11_mostFrom.2.1 61 = .ok (.iload_n 2, 1) := by decide +kernel
theorem dX11_mostFrom_62 : decode mX11_mostFrom.2.1 62 = .ok (.aload_n 0, 1) := by decide +kernel
theorem dX11_mostFrom_63 : decode mX11_mostFrom.2.1 63 = .ok (.iload_n 3, 1) := by decide +kernel
theorem dX11_mostFrom_64 : decode mX11_mostFrom.2.1 64 = .ok (.invokevirtual 521, 3) := by decide +kernel
theorem dX11_mostFrom_67 : decode mX11_mostFrom.2.1 67 = .ok (.ifCond .eq 7, 3) := by decide +kernel
theorem dX11_mostFrom_70 : decode mX11_mostFrom.2.1 70 = .ok (.iconst 1, 1) := by decide +kernel
theorem dX11_mostFrom_71 : decode mX11_mostFrom.2.1 71 = .ok (.goto 4, 3) := by decide +kernel
theorem dX11_mostFrom_74 : decode mX11_mostFrom.2.1 74 = .ok (.iconst 0, 1) := by decide +kernel
theorem dX11_mostFrom_75 : decode mX11_mostFrom.2.1 75 = .ok (.iadd, 1) := by decide +kernel
theorem dX11_mostFrom_76 : decode mX11_mostFrom.2.1 76 = .ok (.istore_n 2, 1) := by decide +kernel
theorem dX11_mostFrom_77 : decode mX11_mostFrom.2.1 77 = .ok (.iinc 3 1, 3) := by decide +kernel
theorem dX11_mostFrom_80 : decode mX11_mostFrom.2.1 80 = .ok (.goto (-53), 3) := by decide +kernel
theorem dX11_mostFrom_83 : decode mX11_mostFrom.2.1 83 = .ok (.iload_n 2, 1) := by decide +kernel
theorem dX11_mostFrom_84 : decode mX11_mostFrom.2.1 84 = .ok (.ireturn, 1) := by decide +kernel
theorem dX11_fillAll_0 : decode mX11_fillAll.2.1 0 = .ok (.iconst 0, 1) := by decide +kernel
theorem dX11_fillAll_1 : decode mX11_fillAll.2.1 1 = .ok (.istore_n 3, 1) := by decide +kernel
theorem dX11_fillAll_2 : decode mX11_fillAll.2.1 2 = .ok (.iload_n 3, 1) := by decide +kernel
theorem dX11_fillAll_3 : decode mX11_fillAll.2.1 3 = .ok (.aload_n 0, 1) := by decide +kernel
theorem dX11_fillAll_4 : decode mX11_fillAll.2.1 4 = .ok (.getfield 504, 3) := by decide +kernel
theorem dX11_fillAll_7 : decode mX11_fillAll.2.1 7 = .ok (.if_icmp .ge 94, 3) := by decide +kernel
theorem dX11_fillAll_10 : decode mX11_fillAll.2.1 10 = .ok (.aload_n 0, 1) := by decide +kernel
theorem dX11_fillAll_11 : decode mX11_fillAll.2.1 11 = .ok (.getfield 198, 3) := by decide +kernel
theorem dX11_fillAll_14 : decode mX11_fillAll.2.1 14 = .ok (.iload_n 3, 1) := by decide +kernel
theorem dX11_fillAll_15 : decode mX11_fillAll.2.1 15 = .ok (.iconst 1, 1) := by decide +kernel
theorem dX11_fillAll_16 : decode mX11_fillAll.2.1 16 = .ok (.bastore, 1) := by decide +kernel
theorem dX11_fillAll_17 : decode mX11_fillAll.2.1 17 = .ok (.aload_n 0, 1) := by decide +kernel
theorem dX11_fillAll_18 : decode mX11_fillAll.2.1 18 = .ok (.getfield 201, 3) := by decide +kernel
theorem dX11_fillAll_21 : decode mX11_fillAll.2.1 21 = .ok (.iload_n 3, 1) := by decide +kernel
theorem dX11_fillAll_22 : decode mX11_fillAll.2.1 22 = .ok (.iconst 0, 1) := by decide +kernel
theorem dX11_fillAll_23 : decode mX11_fillAll.2.1 23 = .ok (.bastore, 1) := by decide +kernel
theorem dX11_fillAll_24 : decode mX11_fillAll.2.1 24 = .ok (.iconst 0, 1) := by decide +kernel
theorem dX11_fillAll_25 : decode mX11_fillAll.2.1 25 = .ok (.istore 4, 2) := by decide +kernel
theorem dX11_fillAll_27 : decode mX11_fillAll.2.1 27 = .ok (.iload 4, 2) := by decide +kernel
theorem dX11_fillAll_29 : decode mX11_fillAll.2.1 29 = .ok (.aload_n 0, 1) := by decide +kernel
theorem dX11_fillAll_30 : decode mX11_fillAll.2.1 30 = .ok (.getfield 515, 3) := by decide +kernel
theorem dX11_fillAll_33 : decode mX11_fillAll.2.1 33 = .ok (.if_icmp .ge 62, 3) := by decide +kernel
theorem dX11_fillAll_36 : decode mX11_fillAll.2.1 36 = .ok (.aload_n 0, 1) := by decide +kernel
theorem dX11_fillAll_37 : decode mX11_fillAll.2.1 37 = .ok (.getfield 180, 3) := by decide +kernel
theorem dX11_fillAll_40 : decode mX11_fillAll.2.1 40 = .ok (.iload 4, 2) := by decide +kernel
theorem dX11_fillAll_42 : decode mX11_fillAll.2.1 42 = .ok (.iaload, 1) := by decide +kernel
theorem dX11_fillAll_43 : decode mX11_fillAll.2.1 43 = .ok (.iload_n 3, 1) := by decide +kernel
theorem dX11_fillAll_44 : decode mX11_fillAll.2.1 44 = .ok (.if_icmp .ne 45, 3) := by decide +kernel
theorem dX11_fillAll_47 : decode mX11_fillAll.2.1 47 = .ok (.aload_n 0, 1) := by decide +kernel
theorem dX11_fillAll_48 : decode mX11_fillAll.2.1 48 = .ok (.getfield 189, 3) := by decide +kernel
theorem dX11_fillAll_51 : decode mX11_fillAll.2.1 51 = .ok (.iload 4, 2) := by decide +kernel
theorem dX11_fillAll_53 : decode mX11_fillAll.2.1 53 = .ok (.iaload, 1) := by decide +kernel
theorem dX11_fillAll_54 : decode mX11_fillAll.2.1 54 = .ok (.iload_n 2, 1) := by decide +kernel
theorem dX11_fillAll_55 : decode mX11_fillAll.2.1 55 = .ok (.if_icmp .gt 34, 3) := by decide +kernel
theorem dX11_fillAll_58 : decode mX11_fillAll.2.1 58 = .ok (.iload_n 1, 1) := by decide +kernel
theorem dX11_fillAll_59 : decode mX11_fillAll.2.1 59 = .ok (.i2l, 1) := by decide +kernel
theorem dX11_fillAll_60 : decode mX11_fillAll.2.1 60 = .ok (.aload_n 0, 1) := by decide +kernel
theorem dX11_fillAll_61 : decode mX11_fillAll.2.1 61 = .ok (.getfield 183, 3) := by decide +kernel
theorem dX11_fillAll_64 : decode mX11_fillAll.2.1 64 = .ok (.iload 4, 2) := by decide +kernel
theorem dX11_fillAll_66 : decode mX11_fillAll.2.1 66 = .ok (.iaload, 1) := by decide +kernel
theorem dX11_fillAll_67 : decode mX11_fillAll.2.1 67 = .ok (.i2l, 1) := by decide +kernel
theorem dX11_fillAll_68 : decode mX11_fillAll.2.1 68 = .ok (.aload_n 0, 1) := by decide +kernel
theorem dX11_fillAll_69 : decode mX11_fillAll.2.1 69 = .ok (.getfield 186, 3) := by decide +kernel
theorem dX11_fillAll_72 : decode mX11_fillAll.2.1 72 = .ok (.iload 4, 2) := by decide +kernel
theorem dX11_fillAll_74 : decode mX11_fillAll.2.1 74 = .ok (.iaload, 1) := by decide +kernel
theorem dX11_fillAll_75 : decode mX11_fillAll.2.1 75 = .ok (.i2l, 1) := by decide +kernel
theorem dX11_fillAll_76 : decode mX11_fillAll.2.1 76 = .ok (.invokestatic 221, 3) := by decide +kernel
theorem dX11_fillAll_79 : decode mX11_fillAll.2.1 79 = .ok (.ifCond .eq 10, 3) := by decide +kernel
theorem dX11_fillAll_82 : decode mX11_fillAll.2.1 82 = .ok (.aload_n 0, 1) := by decide +kernel
theorem dX11_fillAll_83 : decode mX11_fillAll.2.1 83 = .ok (.getfield 198, 3) := by decide +kernel
theorem dX11_fillAll_86 : decode mX11_fillAll.2.1 86 = .ok (.iload_n 3, 1) := by decide +kernel
theorem dX11_fillAll_87 : decode mX11_fillAll.2.1 87 = .ok (.iconst 0, 1) := by decide +kernel
theorem dX11_fillAll_88 : decode mX11_fillAll.2.1 88 = .ok (.bastore, 1) := by decide +kernel
theorem dX11_fillAll_89 : decode mX11_fillAll.2.1 89 = .ok (.iinc 4 1, 3) := by decide +kernel
theorem dX11_fillAll_92 : decode mX11_fillAll.2.1 92 = .ok (.goto (-65), 3) := by decide +kernel
theorem dX11_fillAll_95 : decode mX11_fillAll.2.1 95 = .ok (.iinc 3 1, 3) := by decide +kernel
theorem dX11_fillAll_98 : decode mX11_fillAll.2.1 98 = .ok (.goto (-96), 3) := by decide +kernel
theorem dX11_fillAll_101 : decode mX11_fillAll.2.1 101 = .ok (.aload_n 0, 1) := by decide +kernel
theorem dX11_fillAll_102 : decode mX11_fillAll.2.1 102 = .ok (.iconst 0, 1) := by decide +kernel
theorem dX11_fillAll_103 : decode mX11_fillAll.2.1 103 = .ok (.invokevirtual 524, 3) := by decide +kernel
theorem dX11_fillAll_106 : decode mX11_fillAll.2.1 106 = .ok (.istore_n 3, 1) := by decide +kernel
theorem dX11_fillAll_107 : decode mX11_fillAll.2.1 107 = .ok (.iload_n 3, 1) := by decide +kernel
theorem dX11_fillAll_108 : decode mX11_fillAll.2.1 108 = .ok (.istore 4, 2) := by decide +kernel
theorem dX11_fillAll_110 : decode mX11_fillAll.2.1 110 = .ok (.iconst 0, 1) := by decide +kernel
theorem dX11_fillAll_111 : decode mX11_fillAll.2.1 111 = .ok (.istore 5, 2) := by decide +kernel
theorem dX11_fillAll_113 : decode mX11_fillAll.2.1 113 = .ok (.iload 5, 2) := by decide +kernel
theorem dX11_fillAll_115 : decode mX11_fillAll.2.1 115 = .ok (.aload_n 0, 1) := by decide +kernel
theorem dX11_fillAll_116 : decode mX11_fillAll.2.1 116 = .ok (.getfield 245, 3) := by decide +kernel
theorem dX11_fillAll_119 : decode mX11_fillAll.2.1 119 = .ok (.if_icmp .ge 146, 3) := by decide +kernel
theorem dX11_fillAll_122 : decode mX11_fillAll.2.1 122 = .ok (.aload_n 0, 1) := by decide +kernel
theorem dX11_fillAll_123 : decode mX11_fillAll.2.1 123 = .ok (.getfield 192, 3) := by decide +kernel
theorem dX11_fillAll_126 : decode mX11_fillAll.2.1 126 = .ok (.iload 5, 2) := by decide +kernel
theorem dX11_fillAll_128 : decode mX11_fillAll.2.1 128 = .ok (.iconst (-1), 1) := by decide +kernel
theorem dX11_fillAll_129 : decode mX11_fillAll.2.1 129 = .ok (.iastore, 1) := by decide +kernel
theorem dX11_fillAll_130 : decode mX11_fillAll.2.1 130 = .ok (.iconst 0, 1) := by decide +kernel
theorem dX11_fillAll_131 : decode mX11_fillAll.2.1 131 = .ok (.istore 6, 2) := by decide +kernel
theorem dX11_fillAll_133 : decode mX11_fillAll.2.1 133 = .ok (.iload 6, 2) := by decide +kernel
theorem dX11_fillAll_135 : decode mX11_fillAll.2.1 135 = .ok (.aload_n 0, 1) := by decide +kernel
theorem dX11_fillAll_136 : decode mX11_fillAll.2.1 136 = .ok (.getfield 504, 3) := by decide +kernel
theorem dX11_fillAll_139 : decode mX11_fillAll.2.1 139 = .ok (.if_icmp .ge 100, 3) := by decide +kernel
theorem dX11_fillAll_142 : decode mX11_fillAll.2.1 142 = .ok (.aload_n 0, 1) := by decide +kernel
theorem dX11_fillAll_143 : decode mX11_fillAll.2.1 143 = .ok (.getfield 192, 3) := by decide +kernel
theorem dX11_fillAll_146 : decode mX11_fillAll.2.1 146 = .ok (.iload 5, 2) := by decide +kernel
theorem dX11_fillAll_148 : decode mX11_fillAll.2.1 148 = .ok (.iaload, 1) := by decide +kernel
theorem dX11_fillAll_149 : decode mX11_fillAll.2.1 149 = .ok (.ifCond .ge 90, 3) := by decide +kernel
theorem dX11_fillAll_152 : decode mX11_fillAll.2.1 152 = .ok (.aload_n 0, 1) := by decide +kernel
theorem dX11_fillAll_153 : decode mX11_fillAll.2.1 153 = .ok (.getfield 198, 3) := by decide +kernel
theorem dX11_fillAll_156 : decode mX11_fillAll.2.1 156 = .ok (.iload 6, 2) := by decide +kernel
theorem dX11_fillAll_158 : decode mX11_fillAll.2.1 158 = .ok (.baload, 1) := by decide +kernel
theorem dX11_fillAll_159 : decode mX11_fillAll.2.1 159 = .ok (.ifCond .eq 74, 3) := by decide +kernel
theorem dX11_fillAll_162 : decode mX11_fillAll.2.1 162 = .ok (.aload_n 0, 1) := by decide +kernel
theorem dX11_fillAll_163 : decode mX11_fillAll.2.1 163 = .ok (.getfield 201, 3) := by decide +kernel
theorem dX11_fillAll_166 : decode mX11_fillAll.2.1 166 = .ok (.iload 6, 2) := by decide +kernel
theorem dX11_fillAll_168 : decode mX11_fillAll.2.1 168 = .ok (.baload, 1) := by decide +kernel
theorem dX11_fillAll_169 : decode mX11_fillAll.2.1 169 = .ok (.ifCond .ne 64, 3) := by decide +kernel
theorem dX11_fillAll_172 : decode mX11_fillAll.2.1 172 = .ok (.aload_n 0, 1) := by decide +kernel
theorem dX11_fillAll_173 : decode mX11_fillAll.2.1 173 = .ok (.getfield 177, 3) := by decide +kernel
theorem dX11_fillAll_176 : decode mX11_fillAll.2.1 176 = .ok (.iload 6, 2) := by decide +kernel
theorem dX11_fillAll_178 : decode mX11_fillAll.2.1 178 = .ok (.iaload, 1) := by decide +kernel
theorem dX11_fillAll_179 : decode mX11_fillAll.2.1 179 = .ok (.iload 5, 2) := by decide +kernel
theorem dX11_fillAll_181 : decode mX11_fillAll.2.1 181 = .ok (.ishr, 1) := by decide +kernel
theorem dX11_fillAll_182 : decode mX11_fillAll.2.1 182 = .ok (.iconst 1, 1) := by decide +kernel
theorem dX11_fillAll_183 : decode mX11_fillAll.2.1 183 = .ok (.iand, 1) := by decide +kernel
theorem dX11_fillAll_184 : decode mX11_fillAll.2.1 184 = .ok (.ifCond .ne 6, 3) := by decide +kernel
theorem dX11_fillAll_187 : decode mX11_fillAll.2.1 187 = .ok (.goto 46, 3) := by decide +kernel
theorem dX11_fillAll_190 : decode mX11_fillAll.2.1 190 = .ok (.aload_n 0, 1) := by decide +kernel
theorem dX11_fillAll_191 : decode mX11_fillAll.2.1 191 = .ok (.getfield 201, 3) := by decide +kernel
theorem dX11_fillAll_194 : decode mX11_fillAll.2.1 194 = .ok (.iload 6, 2) := by decide +kernel
theorem dX11_fillAll_196 : decode mX11_fillAll.2.1 196 = .ok (.iconst 1, 1) := by decide +kernel
theorem dX11_fillAll_197 : decode mX11_fillAll.2.1 197 = .ok (.bastore, 1) := by decide +kernel
theorem dX11_fillAll_198 : decode mX11_fillAll.2.1 198 = .ok (.aload_n 0, 1) := by decide +kernel
theorem dX11_fillAll_199 : decode mX11_fillAll.2.1 199 = .ok (.iload 5, 2) := by decide +kernel
theorem dX11_fillAll_201 : decode mX11_fillAll.2.1 201 = .ok (.iconst 1, 1) := by decide +kernel
theorem dX11_fillAll_202 : decode mX11_fillAll.2.1 202 = .ok (.iadd, 1) := by decide +kernel
theorem dX11_fillAll_203 : decode mX11_fillAll.2.1 203 = .ok (.invokevirtual 524, 3) := by decide +kernel
theorem dX11_fillAll_206 : decode mX11_fillAll.2.1 206 = .ok (.iload 4, 2) := by decide +kernel
theorem dX11_fillAll_208 : decode mX11_fillAll.2.1 208 = .ok (.iconst 1, 1) := by decide +kernel
theorem dX11_fillAll_209 : decode mX11_fillAll.2.1 209 = .ok (.isub, 1) := by decide +kernel
theorem dX11_fillAll_210 : decode mX11_fillAll.2.1 210 = .ok (.if_icmp .ne 15, 3) := by decide +kernel
theorem dX11_fillAll_213 : decode mX11_fillAll.2.1 213 = .ok (.aload_n 0, 1) := by decide +kernel
theorem dX11_fillAll_214 : decode mX11_fillAll.2.1 214 = .ok (.getfield 192, 3) := by decide +kernel
theorem dX11_fillAll_217 : decode mX11_fillAll.2.1 217 = .ok (.iload 5, 2) := by decide +kernel
theorem dX11_fillAll_219 : decode mX11_fillAll.2.1 219 = .ok (.iload 6, 2) := by decide +kernel
theorem dX11_fillAll_221 : decode mX11_fillAll.2.1 221 = .ok (.iastore, 1) := by decide +kernel
theorem dX11_fillAll_222 : decode mX11_fillAll.2.1 222 = .ok (.goto 11, 3) := by decide +kernel
theorem dX11_fillAll_225 : decode mX11_fillAll.2.1 225 = .ok (.aload_n 0, 1) := by decide +kernel
theorem dX11_fillAll_226 : decode mX11_fillAll.2.1 226 = .ok (.getfield 201, 3) := by decide +kernel
theorem dX11_fillAll_229 : decode mX11_fillAll.2.1 229 = .ok (.iload 6, 2) := by decide +kernel
theorem dX11_fillAll_231 : decode mX11_fillAll.2.1 231 = .ok (.iconst 0, 1) := by decide +kernel
theorem dX11_fillAll_232 : decode mX11_fillAll.2.1 232 = .ok (.bastore, 1) := by decide +kernel
theorem dX11_fillAll_233 : decode mX11_fillAll.2.1 233 = .ok (.iinc 6 1, 3) := by decide +kernel
theorem dX11_fillAll_236 : decode mX11_fillAll.2.1 236 = .ok (.goto (-103), 3) := by decide +kernel
theorem dX11_fillAll_239 : decode mX11_fillAll.2.1 239 = .ok (.iload 4, 2) := by decide +kernel
theorem dX11_fillAll_241 : decode mX11_fillAll.2.1 241 = .ok (.aload_n 0, 1) := by decide +kernel
theorem dX11_fillAll_242 : decode mX11_fillAll.2.1 242 = .ok (.getfield 192, 3) := by decide +kernel
theorem dX11_fillAll_245 : decode mX11_fillAll.2.1 245 = .ok (.iload 5, 2) := by decide +kernel
theorem dX11_fillAll_247 : decode mX11_fillAll.2.1 247 = .ok (.iaload, 1) := by decide +kernel
theorem dX11_fillAll_248 : decode mX11_fillAll.2.1 248 = .ok (.ifCond .lt 7, 3) := by decide +kernel
theorem dX11_fillAll_251 : decode mX11_fillAll.2.1 251 = .ok (.iconst 1, 1) := by decide +kernel
theorem dX11_fillAll_252 : decode mX11_fillAll.2.1 252 = .ok (.goto 4, 3) := by decide +kernel
theorem dX11_fillAll_255 : decode mX11_fillAll.2.1 255 = .ok (.iconst 0, 1) := by decide +kernel
theorem dX11_fillAll_256 : decode mX11_fillAll.2.1 256 = .ok (.isub, 1) := by decide +kernel
theorem dX11_fillAll_257 : decode mX11_fillAll.2.1 257 = .ok (.istore 4, 2) := by decide +kernel
theorem dX11_fillAll_259 : decode mX11_fillAll.2.1 259 = .ok (.iinc 5 1, 3) := by decide +kernel
theorem dX11_fillAll_262 : decode mX11_fillAll.2.1 262 = .ok (.goto (-149), 3) := by decide +kernel
theorem dX11_fillAll_265 : decode mX11_fillAll.2.1 265 = .ok (.iload_n 3, 1) := by decide +kernel
theorem dX11_fillAll_266 : decode mX11_fillAll.2.1 266 = .ok (.ireturn, 1) := by decide +kernel
theorem dX11_filled_0 : decode mX11_filled.2.1 0 = .ok (.aload_n 0, 1) := by decide +kernel
theorem dX11_filled_1 : decode mX11_filled.2.1 1 = .ok (.iconst 0, 1) := by decide +kernel
theorem dX11_filled_2 : decode mX11_filled.2.1 2 = .ok (.putfield 213, 3) := by decide +kernel
theorem dX11_filled_5 : decode mX11_filled.2.1 5 = .ok (.aload_n 0, 1) := by decide +kernel
theorem dX11_filled_6 : decode mX11_filled.2.1 6 = .ok (.iconst 0, 1) := by decide +kernel
theorem dX11_filled_7 : decode mX11_filled.2.1 7 = .ok (.putfield 216, 3) := by decide +kernel
theorem dX11_filled_10 : decode mX11_filled.2.1 10 = .ok (.iload_n 1, 1) := by decide +kernel
theorem dX11_filled_11 : decode mX11_filled.2.1 11 = .ok (.invokestatic 512, 3) := by decide +kernel
theorem dX11_filled_14 : decode mX11_filled.2.1 14 = .ok (.ifCond .eq 19, 3) := by decide +kernel
theorem dX11_filled_17 : decode mX11_filled.2.1 17 = .ok (.iload_n 2, 1) := by decide +kernel
theorem dX11_filled_18 : decode mX11_filled.2.1 18 = .ok (.invokestatic 512, 3) := by decide +kernel
theorem dX11_filled_21 : decode mX11_filled.2.1 21 = .ok (.ifCond .eq 12, 3) := by decide +kernel
theorem dX11_filled_24 : decode mX11_filled.2.1 24 = .ok (.aload_n 0, 1) := by decide +kernel
theorem dX11_filled_25 : decode mX11_filled.2.1 25 = .ok (.iload_n 1, 1) := by decide +kernel
theorem dX11_filled_26 : decode mX11_filled.2.1 26 = .ok (.iload_n 2, 1) := by decide +kernel
theorem dX11_filled_27 : decode mX11_filled.2.1 27 = .ok (.invokevirtual 527, 3) := by decide +kernel
theorem dX11_filled_30 : decode mX11_filled.2.1 30 = .ok (.goto 8, 3) := by decide +kernel
theorem dX11_filled_33 : decode mX11_filled.2.1 33 = .ok (.aload_n 0, 1) := by decide +kernel
theorem dX11_filled_34 : decode mX11_filled.2.1 34 = .ok (.iconst 5, 1) := by decide +kernel
theorem dX11_filled_35 : decode mX11_filled.2.1 35 = .ok (.invokevirtual 254, 3) := by decide +kernel
theorem dX11_filled_38 : decode mX11_filled.2.1 38 = .ok (.ireturn, 1) := by decide +kernel
theorem dX11_who_0 : decode mX11_who.2.1 0 = .ok (.aload_n 0, 1) := by decide +kernel
theorem dX11_who_1 : decode mX11_who.2.1 1 = .ok (.iconst 0, 1) := by decide +kernel
theorem dX11_who_2 : decode mX11_who.2.1 2 = .ok (.putfield 213, 3) := by decide +kernel
theorem dX11_who_5 : decode mX11_who.2.1 5 = .ok (.aload_n 0, 1) := by decide +kernel
theorem dX11_who_6 : decode mX11_who.2.1 6 = .ok (.iconst 0, 1) := by decide +kernel
theorem dX11_who_7 : decode mX11_who.2.1 7 = .ok (.putfield 216, 3) := by decide +kernel
theorem dX11_who_10 : decode mX11_who.2.1 10 = .ok (.aload_n 0, 1) := by decide +kernel
theorem dX11_who_11 : decode mX11_who.2.1 11 = .ok (.iload_n 1, 1) := by decide +kernel
theorem dX11_who_12 : decode mX11_who.2.1 12 = .ok (.invokevirtual 498, 3) := by decide +kernel
theorem dX11_who_15 : decode mX11_who.2.1 15 = .ok (.ifCond .ne 9, 3) := by decide +kernel
theorem dX11_who_18 : decode mX11_who.2.1 18 = .ok (.aload_n 0, 1) := by decide +kernel
theorem dX11_who_19 : decode mX11_who.2.1 19 = .ok (.iconst 2, 1) := by decide +kernel
theorem dX11_who_20 : decode mX11_who.2.1 20 = .ok (.invokevirtual 254, 3) := by decide +kernel
theorem dX11_who_23 : decode mX11_who.2.1 23 = .ok (.ireturn, 1) := by decide +kernel
theorem dX11_who_24 : decode mX11_who.2.1 24 = .ok (.iload_n 2, 1) := by decide +kernel
theorem dX11_who_25 : decode mX11_who.2.1 25 = .ok (.invokestatic 512, 3) := by decide +kernel
theorem dX11_who_28 : decode mX11_who.2.1 28 = .ok (.ifCond .eq 10, 3) := by decide +kernel
theorem dX11_who_31 : decode mX11_who.2.1 31 = .ok (.iload_n 3, 1) := by decide +kernel
theorem dX11_who_32 : decode mX11_who.2.1 32 = .ok (.invokestatic 512, 3) := by decide +kernel
theorem dX11_who_35 : decode mX11_who.2.1 35 = .ok (.ifCond .ne 9, 3) := by decide +kernel
theorem dX11_who_38 : decode mX11_who.2.1 38 = .ok (.aload_n 0, 1) := by decide +kernel
theorem dX11_who_39 : decode mX11_who.2.1 39 = .ok (.iconst 5, 1) := by decide +kernel
theorem dX11_who_40 : decode mX11_who.2.1 40 = .ok (.invokevirtual 254, 3) := by decide +kernel
theorem dX11_who_43 : decode mX11_who.2.1 43 = .ok (.ireturn, 1) := by decide +kernel
theorem dX11_who_44 : decode mX11_who.2.1 44 = .ok (.aload_n 0, 1) := by decide +kernel
theorem dX11_who_45 : decode mX11_who.2.1 45 = .ok (.iload_n 2, 1) := by decide +kernel
theorem dX11_who_46 : decode mX11_who.2.1 46 = .ok (.iload_n 3, 1) := by decide +kernel
theorem dX11_who_47 : decode mX11_who.2.1 47 = .ok (.invokevirtual 527, 3) := by decide +kernel
theorem dX11_who_50 : decode mX11_who.2.1 50 = .ok (.pop, 1) := by decide +kernel
theorem dX11_who_51 : decode mX11_who.2.1 51 = .ok (.aload_n 0, 1) := by decide +kernel
theorem dX11_who_52 : decode mX11_who.2.1 52 = .ok (.getfield 192, 3) := by decide +kernel
theorem dX11_who_55 : decode mX11_who.2.1 55 = .ok (.iload_n 1, 1) := by decide +kernel
theorem dX11_who_56 : decode mX11_who.2.1 56 = .ok (.iaload, 1) := by decide +kernel
theorem dX11_who_57 : decode mX11_who.2.1 57 = .ok (.ifCond .ge 12, 3) := by decide +kernel
theorem dX11_who_60 : decode mX11_who.2.1 60 = .ok (.aload_n 0, 1) := by decide +kernel
theorem dX11_who_61 : decode mX11_who.2.1 61 = .ok (.bipush 8, 2) := by decide +kernel
theorem dX11_who_63 : decode mX11_who.2.1 63 = .ok (.invokevirtual 254, 3) := by decide +kernel
theorem dX11_who_66 : decode mX11_who.2.1 66 = .ok (.goto 9, 3) := by decide +kernel
theorem dX11_who_69 : decode mX11_who.2.1 69 = .ok (.aload_n 0, 1) := by decide +kernel
theorem dX11_who_70 : decode mX11_who.2.1 70 = .ok (.getfield 192, 3) := by decide +kernel
theorem dX11_who_73 : decode mX11_who.2.1 73 = .ok (.iload_n 1, 1) := by decide +kernel
theorem dX11_who_74 : decode mX11_who.2.1 74 = .ok (.iaload, 1) := by decide +kernel
theorem dX11_who_75 : decode mX11_who.2.1 75 = .ok (.ireturn, 1) := by decide +kernel
theorem dX11_mark_0 : decode mX11_mark.2.1 0 = .ok (.aload_n 0, 1) := by decide +kernel
theorem dX11_mark_1 : decode mX11_mark.2.1 1 = .ok (.iconst 0, 1) := by decide +kernel
theorem dX11_mark_2 : decode mX11_mark.2.1 2 = .ok (.putfield 213, 3) := by decide +kernel
theorem dX11_mark_5 : decode mX11_mark.2.1 5 = .ok (.aload_n 0, 1) := by decide +kernel
theorem dX11_mark_6 : decode mX11_mark.2.1 6 = .ok (.iconst 0, 1) := by decide +kernel
theorem dX11_mark_7 : decode mX11_mark.2.1 7 = .ok (.putfield 216, 3) := by decide +kernel
theorem dX11_mark_10 : decode mX11_mark.2.1 10 = .ok (.iload_n 1, 1) := by decide +kernel
theorem dX11_mark_11 : decode mX11_mark.2.1 11 = .ok (.i2l, 1) := by decide +kernel
theorem dX11_mark_12 : decode mX11_mark.2.1 12 = .ok (.lconst 0, 1) := by decide +kernel
theorem dX11_mark_13 : decode mX11_mark.2.1 13 = .ok (.ldc2_w 530, 3) := by decide +kernel
theorem dX11_mark_16 : decode mX11_mark.2.1 16 = .ok (.invokestatic 221, 3) := by decide +kernel
theorem dX11_mark_19 : decode mX11_mark.2.1 19 = .ok (.ifCond .eq 27, 3) := by decide +kernel
theorem dX11_mark_22 : decode mX11_mark.2.1 22 = .ok (.iload_n 2, 1) := by decide +kernel
theorem dX11_mark_23 : decode mX11_mark.2.1 23 = .ok (.i2l, 1) := by decide +kernel
theorem dX11_mark_24 : decode mX11_mark.2.1 24 = .ok (.lconst 0, 1) := by decide +kernel
theorem dX11_mark_25 : decode mX11_mark.2.1 25 = .ok (.ldc2_w 532, 3) := by decide +kernel
theorem dX11_mark_28 : decode mX11_mark.2.1 28 = .ok (.invokestatic 221, 3) := by decide +kernel
theorem dX11_mark_31 : decode mX11_mark.2.1 31 = .ok (.ifCond .eq 15, 3) := by decide +kernel
theorem dX11_mark_34 : decode mX11_mark.2.1 34 = .ok (.iload_n 3, 1) := by decide +kernel
theorem dX11_mark_35 : decode mX11_mark.2.1 35 = .ok (.i2l, 1) := by decide +kernel
theorem dX11_mark_36 : decode mX11_mark.2.1 36 = .ok (.lconst 0, 1) := by decide +kernel
theorem dX11_mark_37 : decode mX11_mark.2.1 37 = .ok (.ldc2_w 456, 3) := by decide +kernel
theorem dX11_mark_40 : decode mX11_mark.2.1 40 = .ok (.invokestatic 221, 3) := by decide +kernel
theorem dX11_mark_43 : decode mX11_mark.2.1 43 = .ok (.ifCond .ne 9, 3) := by decide +kernel
theorem dX11_mark_46 : decode mX11_mark.2.1 46 = .ok (.aload_n 0, 1) := by decide +kernel
theorem dX11_mark_47 : decode mX11_mark.2.1 47 = .ok (.iconst 2, 1) := by decide +kernel
theorem dX11_mark_48 : decode mX11_mark.2.1 48 = .ok (.invokevirtual 227, 3) := by decide +kernel
theorem dX11_mark_51 : decode mX11_mark.2.1 51 = .ok (.ireturn, 1) := by decide +kernel
theorem dX11_mark_52 : decode mX11_mark.2.1 52 = .ok (.iload 4, 2) := by decide +kernel
theorem dX11_mark_54 : decode mX11_mark.2.1 54 = .ok (.i2l, 1) := by decide +kernel
theorem dX11_mark_55 : decode mX11_mark.2.1 55 = .ok (.ldc2_w 243, 3) := by decide +kernel
theorem dX11_mark_58 : decode mX11_mark.2.1 58 = .ok (.ldc2_w 534, 3) := by decide +kernel
theorem dX11_mark_61 : decode mX11_mark.2.1 61 = .ok (.invokestatic 221, 3) := by decide +kernel
theorem dX11_mark_64 : decode mX11_mark.2.1 64 = .ok (.ifCond .ne 9, 3) := by decide +kernel
theorem dX11_mark_67 : decode mX11_mark.2.1 67 = .ok (.aload_n 0, 1) := by decide +kernel
theorem dX11_mark_68 : decode mX11_mark.2.1 68 = .ok (.iconst 5, 1) := by decide +kernel
theorem dX11_mark_69 : decode mX11_mark.2.1 69 = .ok (.invokevirtual 227, 3) := by decide +kernel
theorem dX11_mark_72 : decode mX11_mark.2.1 72 = .ok (.ireturn, 1) := by decide +kernel
theorem dX11_mark_73 : decode mX11_mark.2.1 73 = .ok (.aload_n 0, 1) := by decide +kernel
theorem dX11_mark_74 : decode mX11_mark.2.1 74 = .ok (.getfield 207, 3) := by decide +kernel
theorem dX11_mark_77 : decode mX11_mark.2.1 77 = .ok (.bipush 27, 2) := by decide +kernel
theorem dX11_mark_79 : decode mX11_mark.2.1 79 = .ok (.iload_n 1, 1) := by decide +kernel
theorem dX11_mark_80 : decode mX11_mark.2.1 80 = .ok (.imul, 1) := by decide +kernel
theorem dX11_mark_81 : decode mX11_mark.2.1 81 = .ok (.iconst 3, 1) := by decide +kernel
theorem dX11_mark_82 : decode mX11_mark.2.1 82 = .ok (.iload_n 2, 1) := by decide +kernel
theorem dX11_mark_83 : decode mX11_mark.2.1 83 = .ok (.imul, 1) := by decide +kernel
theorem dX11_mark_84 : decode mX11_mark.2.1 84 = .ok (.iadd, 1) := by decide +kernel
theorem dX11_mark_85 : decode mX11_mark.2.1 85 = .ok (.iload_n 3, 1) := by decide +kernel
theorem dX11_mark_86 : decode mX11_mark.2.1 86 = .ok (.iadd, 1) := by decide +kernel
theorem dX11_mark_87 : decode mX11_mark.2.1 87 = .ok (.iload 4, 2) := by decide +kernel
theorem dX11_mark_89 : decode mX11_mark.2.1 89 = .ok (.iastore, 1) := by decide +kernel
theorem dX11_mark_90 : decode mX11_mark.2.1 90 = .ok (.iconst 1, 1) := by decide +kernel
theorem dX11_mark_91 : decode mX11_mark.2.1 91 = .ok (.ireturn, 1) := by decide +kernel
theorem dX11_weight_0 : decode mX11_weight.2.1 0 = .ok (.aload_n 0, 1) := by decide +kernel
theorem dX11_weight_1 : decode mX11_weight.2.1 1 = .ok (.iconst 0, 1) := by decide +kernel
theorem dX11_weight_2 : decode mX11_weight.2.1 2 = .ok (.putfield 213, 3) := by decide +kernel
theorem dX11_weight_5 : decode mX11_weight.2.1 5 = .ok (.aload_n 0, 1) := by decide +kernel
theorem dX11_weight_6 : decode mX11_weight.2.1 6 = .ok (.iconst 0, 1) := by decide +kernel
theorem dX11_weight_7 : decode mX11_weight.2.1 7 = .ok (.putfield 216, 3) := by decide +kernel
theorem dX11_weight_10 : decode mX11_weight.2.1 10 = .ok (.iload_n 1, 1) := by decide +kernel
theorem dX11_weight_11 : decode mX11_weight.2.1 11 = .ok (.i2l, 1) := by decide +kernel
theorem dX11_weight_12 : decode mX11_weight.2.1 12 = .ok (.lconst 0, 1) := by decide +kernel
theorem dX11_weight_13 : decode mX11_weight.2.1 13 = .ok (.ldc2_w 456, 3) := by decide +kernel
theorem dX11_weight_16 : decode mX11_weight.2.1 16 = .ok (.invokestatic 221, 3) := by decide +kernel
theorem dX11_weight_19 : decode mX11_weight.2.1 19 = .ok (.ifCond .ne 9, 3) := by decide +kernel
theorem dX11_weight_22 : decode mX11_weight.2.1 22 = .ok (.aload_n 0, 1) := by decide +kernel
theorem dX11_weight_23 : decode mX11_weight.2.1 23 = .ok (.iconst 2, 1) := by decide +kernel
theorem dX11_weight_24 : decode mX11_weight.2.1 24 = .ok (.invokevirtual 227, 3) := by decide +kernel
theorem dX11_weight_27 : decode mX11_weight.2.1 27 = .ok (.ireturn, 1) := by decide +kernel
theorem dX11_weight_28 : decode mX11_weight.2.1 28 = .ok (.iload_n 2, 1) := by decide +kernel
theorem dX11_weight_29 : decode mX11_weight.2.1 29 = .ok (.i2l, 1) := by decide +kernel
theorem dX11_weight_30 : decode mX11_weight.2.1 30 = .ok (.lconst 1, 1) := by decide +kernel
theorem dX11_weight_31 : decode mX11_weight.2.1 31 = .ok (.ldc2_w 536, 3) := by decide +kernel
theorem dX11_weight_34 : decode mX11_weight.2.1 34 = .ok (.invokestatic 221, 3) := by decide +kernel
theorem dX11_weight_37 : decode mX11_weight.2.1 37 = .ok (.ifCond .ne 9, 3) := by decide +kernel
theorem dX11_weight_40 : decode mX11_weight.2.1 40 = .ok (.aload_n 0, 1) := by decide +kernel
theorem dX11_weight_41 : decode mX11_weight.2.1 41 = .ok (.iconst 5, 1) := by decide +kernel
theorem dX11_weight_42 : decode mX11_weight.2.1 42 = .ok (.invokevirtual 227, 3) := by decide +kernel
theorem dX11_weight_45 : decode mX11_weight.2.1 45 = .ok (.ireturn, 1) := by decide +kernel
theorem dX11_weight_46 : decode mX11_weight.2.1 46 = .ok (.aload_n 0, 1) := by decide +kernel
theorem dX11_weight_47 : decode mX11_weight.2.1 47 = .ok (.getfield 210, 3) := by decide +kernel
theorem dX11_weight_50 : decode mX11_weight.2.1 50 = .ok (.iload_n 1, 1) := by decide +kernel
theorem dX11_weight_51 : decode mX11_weight.2.1 51 = .ok (.iload_n 2, 1) := by decide +kernel
theorem dX11_weight_52 : decode mX11_weight.2.1 52 = .ok (.iastore, 1) := by decide +kernel
theorem dX11_weight_53 : decode mX11_weight.2.1 53 = .ok (.iconst 1, 1) := by decide +kernel
theorem dX11_weight_54 : decode mX11_weight.2.1 54 = .ok (.ireturn, 1) := by decide +kernel
theorem dX11_common_0 : decode mX11_common.2.1 0 = .ok (.lload_n 0, 1) := by decide +kernel
theorem dX11_common_1 : decode mX11_common.2.1 1 = .ok (.lstore 4, 2) := by decide +kernel
theorem dX11_common_3 : decode mX11_common.2.1 3 = .ok (.lload_n 2, 1) := by decide +kernel
theorem dX11_common_4 : decode mX11_common.2.1 4 = .ok (.lstore 6, 2) := by decide +kernel
theorem dX11_common_6 : decode mX11_common.2.1 6 = .ok (.lload 6, 2) := by decide +kernel
theorem dX11_common_8 : decode mX11_common.2.1 8 = .ok (.lconst 0, 1) := by decide +kernel
theorem dX11_common_9 : decode mX11_common.2.1 9 = .ok (.lcmp, 1) := by decide +kernel
theorem dX11_common_10 : decode mX11_common.2.1 10 = .ok (.ifCond .eq 21, 3) := by decide +kernel
theorem dX11_common_13 : decode mX11_common.2.1 13 = .ok (.lload 4, 2) := by decide +kernel
theorem dX11_common_15 : decode mX11_common.2.1 15 = .ok (.lload 6, 2) := by decide +kernel
theorem dX11_common_17 : decode mX11_common.2.1 17 = .ok (.lrem, 1) := by decide +kernel
theorem dX11_common_18 : decode mX11_common.2.1 18 = .ok (.lstore 8, 2) := by decide +kernel
theorem dX11_common_20 : decode mX11_common.2.1 20 = .ok (.lload 6, 2) := by decide +kernel
theorem dX11_common_22 : decode mX11_common.2.1 22 = .ok (.lstore 4, 2) := by decide +kernel
theorem dX11_common_24 : decode mX11_common.2.1 24 = .ok (.lload 8, 2) := by decide +kernel
theorem dX11_common_26 : decode mX11_common.2.1 26 = .ok (.lstore 6, 2) := by decide +kernel
theorem dX11_common_28 : decode mX11_common.2.1 28 = .ok (.goto (-22), 3) := by decide +kernel
theorem dX11_common_31 : decode mX11_common.2.1 31 = .ok (.lload 4, 2) := by decide +kernel
theorem dX11_common_33 : decode mX11_common.2.1 33 = .ok (.lreturn, 1) := by decide +kernel
theorem dX11_totals_0 : decode mX11_totals.2.1 0 = .ok (.aload_n 0, 1) := by decide +kernel
theorem dX11_totals_1 : decode mX11_totals.2.1 1 = .ok (.lconst 0, 1) := by decide +kernel
theorem dX11_totals_2 : decode mX11_totals.2.1 2 = .ok (.putfield 538, 3) := by decide +kernel
theorem dX11_totals_5 : decode mX11_totals.2.1 5 = .ok (.aload_n 0, 1) := by decide +kernel
theorem dX11_totals_6 : decode mX11_totals.2.1 6 = .ok (.lconst 1, 1) := by decide +kernel
theorem dX11_totals_7 : decode mX11_totals.2.1 7 = .ok (.putfield 541, 3) := by decide +kernel
theorem dX11_totals_10 : decode mX11_totals.2.1 10 = .ok (.iconst 0, 1) := by decide +kernel
theorem dX11_totals_11 : decode mX11_totals.2.1 11 = .ok (.istore_n 2, 1) := by decide +kernel
theorem dX11_totals_12 : decode mX11_totals.2.1 12 = .ok (.iload_n 2, 1) := by decide +kernel
theorem dX11_totals_13 : decode mX11_totals.2.1 13 = .ok (.iconst 3, 1) := by decide +kernel
theorem dX11_totals_14 : decode mX11_totals.2.1 14 = .ok (.if_icmp .ge 154, 3) := by decide +kernel
theorem dX11_totals_17 : decode mX11_totals.2.1 17 = .ok (.iconst 0, 1) := by decide +kernel
theorem dX11_totals_18 : decode mX11_totals.2.1 18 = .ok (.istore_n 3, 1) := by decide +kernel
theorem dX11_totals_19 : decode mX11_totals.2.1 19 = .ok (.iconst 0, 1) := by decide +kernel
theorem dX11_totals_20 : decode mX11_totals.2.1 20 = .ok (.istore 4, 2) := by decide +kernel
theorem dX11_totals_22 : decode mX11_totals.2.1 22 = .ok (.bipush 101, 2) := by decide +kernel
theorem dX11_totals_24 : decode mX11_totals.2.1 24 = .ok (.istore 5, 2) := by decide +kernel
theorem dX11_totals_26 : decode mX11_totals.2.1 26 = .ok (.iconst (-1), 1) := by decide +kernel
theorem dX11_totals_27 : decode mX11_totals.2.1 27 = .ok (.istore 6, 2) := by decide +kernel
theorem dX11_totals_29 : decode mX11_totals.2.1 29 = .ok (.iconst 0, 1) := by decide +kernel
theorem dX11_totals_30 : decode mX11_totals.2.1 30 = .ok (.istore 7, 2) := by decide +kernel
theorem dX11_totals_32 : decode mX11_totals.2.1 32 = .ok (.iload 7, 2) := by decide +kernel
theorem dX11_totals_34 : decode mX11_totals.2.1 34 = .ok (.bipush 9, 2) := by decide +kernel
theorem dX11_totals_36 : decode mX11_totals.2.1 36 = .ok (.if_icmp .ge 63, 3) := by decide +kernel
theorem dX11_totals_39 : decode mX11_totals.2.1 39 = .ok (.aload_n 0, 1) := by decide +kernel
theorem dX11_totals_40 : decode mX11_totals.2.1 40 = .ok (.getfield 207, 3) := by decide +kernel
theorem dX11_totals_43 : decode mX11_totals.2.1 43 = .ok (.bipush 27, 2) := by decide +kernel
theorem dX11_totals_45 : decode mX11_totals.2.1 45 = .ok (.iload_n 1, 1) := by decide +kernel
theorem dX11_totals_46 : decode mX11_totals.2.1 46 = .ok (.imul, 1) := by decide +kernel
theorem dX11_totals_47 : decode mX11_totals.2.1 47 = .ok (.iconst 3, 1) := by decide +kernel
theorem dX11_totals_48 : decode mX11_totals.2.1 48 = .ok (.iload 7, 2) := by decide +kernel
theorem dX11_totals_50 : decode mX11_totals.2.1 50 = .ok (.imul, 1) := by decide +kernel
theorem dX11_totals_51 : decode mX11_totals.2.1 51 = .ok (.iadd, 1) := by decide +kernel
theorem dX11_totals_52 : decode mX11_totals.2.1 52 = .ok (.iload_n 2, 1) := by decide +kernel
theorem dX11_totals_53 : decode mX11_totals.2.1 53 = .ok (.iadd, 1) := by decide +kernel
theorem dX11_totals_54 : decode mX11_totals.2.1 54 = .ok (.iaload, 1) := by decide +kernel
theorem dX11_totals_55 : decode mX11_totals.2.1 55 = .ok (.istore 8, 2) := by decide +kernel
theorem dX11_totals_57 : decode mX11_totals.2.1 57 = .ok (.iload 8, 2) := by decide +kernel
theorem dX11_totals_59 : decode mX11_totals.2.1 59 = .ok (.ifCond .ge 6, 3) := by decide +kernel
theorem dX11_totals_62 : decode mX11_totals.2.1 62 = .ok (.goto 31, 3) := by decide +kernel
theorem dX11_totals_65 : decode mX11_totals.2.1 65 = .ok (.iinc 3 1, 3) := by decide +kernel
theorem dX11_totals_68 : decode mX11_totals.2.1 68 = .ok (.iload 4, 2) := by decide +kernel
theorem dX11_totals_70 : decode mX11_totals.2.1 70 = .ok (.iload 8, 2) := by decide +kernel
theorem dX11_totals_72 : decode mX11_totals.2.1 72 = .ok (.iadd, 1) := by decide +kernel
theorem dX11_totals_73 : decode mX11_totals.2.1 73 = .ok (.istore 4, 2) := by decide +kernel
theorem dX11_totals_75 : decode mX11_totals.2.1 75 = .ok (.iload 5, 2) := by decide +kernel
theorem dX11_totals_77 : decode mX11_totals.2.1 77 = .ok (.iload 8, 2) := by decide +kernel
theorem dX11_totals_79 : decode mX11_totals.2.1 79 = .ok (.invokestatic 458, 3) := by decide +kernel
theorem dX11_totals_82 : decode mX11_totals.2.1 82 = .ok (.istore 5, 2) := by decide +kernel
theorem dX11_totals_84 : decode mX11_totals.2.1 84 = .ok (.iload 6, 2) := by decide +kernel
theorem dX11_totals_86 : decode mX11_totals.2.1 86 = .ok (.iload 8, 2) := by decide +kernel
theorem dX11_totals_88 : decode mX11_totals.2.1 88 = .ok (.invokestatic 431, 3) := by decide +kernel
theorem dX11_totals_91 : decode mX11_totals.2.1 91 = .ok (.istore 6, 2) := by decide +kernel
theorem dX11_totals_93 : decode mX11_totals.2.1 93 = .ok (.iinc 7 1, 3) := by decide +kernel
theorem dX11_totals_96 : decode mX11_totals.2.1 96 = .ok (.goto (-64), 3) := by decide +kernel
theorem dX11_totals_99 : decode mX11_totals.2.1 99 = .ok (.iload_n 3, 1) := by decide +kernel
theorem dX11_totals_100 : decode mX11_totals.2.1 100 = .ok (.ifCond .ne 5, 3) := by decide +kernel
theorem dX11_totals_103 : decode mX11_totals.2.1 103 = .ok (.iconst 0, 1) := by decide +kernel
theorem dX11_totals_104 : decode mX11_totals.2.1 104 = .ok (.ireturn, 1) := by decide +kernel
theorem dX11_totals_105 : decode mX11_totals.2.1 105 = .ok (.iload_n 3, 1) := by decide +kernel
theorem dX11_totals_106 : decode mX11_totals.2.1 106 = .ok (.iconst 2, 1) := by decide +kernel
theorem dX11_totals_107 : decode mX11_totals.2.1 107 = .ok (.if_icmp .le 16, 3) := by decide +kernel
theorem dX11_totals_110 : decode mX11_totals.2.1 110 = .ok (.iinc 3 (-2), 3) := by decide +kernel
theorem dX11_totals_113 : decode mX11_totals.2.1 113 = .ok (.iload 4, 2) := by decide +kernel
theorem dX11_totals_115 : decode mX11_totals.2.1 115 = .ok (.iload 5, 2) := by decide +kernel
theorem dX11_totals_117 : decode mX11_totals.2.1 117 = .ok (.iload 6, 2) := by decide +kernel
theorem dX11_totals_119 : decode mX11_totals.2.1 119 = .ok (.iadd, 1) := by decide +kernel
theorem dX11_totals_120 : decode mX11_totals.2.1 120 = .ok (.isub, 1) := by decide +kernel
theorem dX11_totals_121 : decode mX11_totals.2.1 121 = .ok (.istore 4, 2) := by decide +kernel
theorem dX11_totals_123 : decode mX11_totals.2.1 123 = .ok (.aload_n 0, 1) := by decide +kernel
theorem dX11_totals_124 : decode mX11_totals.2.1 124 = .ok (.aload_n 0, 1) := by decide +kernel
theorem dX11_totals_125 : decode mX11_totals.2.1 125 = .ok (.getfield 538, 3) := by decide +kernel
theorem dX11_totals_128 : decode mX11_totals.2.1 128 = .ok (.iload_n 3, 1) := by decide +kernel
theorem dX11_totals_129 : decode mX11_totals.2.1 129 = .ok (.i2l, 1) := by decide +kernel
theorem dX11_totals_130 : decode mX11_totals.2.1 130 = .ok (.lmul, 1) := by decide +kernel
theorem dX11_totals_131 : decode mX11_totals.2.1 131 = .ok (.aload_n 0, 1) := by decide +kernel
theorem dX11_totals_132 : decode mX11_totals.2.1 132 = .ok (.getfield 210, 3) := by decide +kernel
theorem dX11_totals_135 : decode mX11_totals.2.1 135 = .ok (.iload_n 2, 1) := by decide +kernel
theorem dX11_totals_136 : decode mX11_totals.2.1 136 = .ok (.iaload, 1) := by decide +kernel
theorem dX11_totals_137 : decode mX11_totals.2.1 137 = .ok (.i2l, 1) := by decide +kernel
theorem dX11_totals_138 : decode mX11_totals.2.1 138 = .ok (.iload 4, 2) := by decide +kernel
theorem dX11_totals_140 : decode mX11_totals.2.1 140 = .ok (.i2l, 1) := by decide +kernel
theorem dX11_totals_141 : decode mX11_totals.2.1 141 = .ok (.lmul, 1) := by decide +kernel
theorem dX11_totals_142 : decode mX11_totals.2.1 142 = .ok (.aload_n 0, 1) := by decide +kernel
theorem dX11_totals_143 : decode mX11_totals.2.1 143 = .ok (.getfield 541, 3) := by decide +kernel
theorem dX11_totals_146 : decode mX11_totals.2.1 146 = .ok (.lmul, 1) := by decide +kernel
theorem dX11_totals_147 : decode mX11_totals.2.1 147 = .ok (.ladd, 1) := by decide +kernel
theorem dX11_totals_148 : decode mX11_totals.2.1 148 = .ok (.putfield 538, 3) := by decide +kernel
theorem dX11_totals_151 : decode mX11_totals.2.1 151 = .ok (.aload_n 0, 1) := by decide +kernel
theorem dX11_totals_152 : decode mX11_totals.2.1 152 = .ok (.dup, 1) := by decide +kernel
theorem dX11_totals_153 : decode mX11_totals.2.1 153 = .ok (.getfield 541, 3) := by decide +kernel
theorem dX11_totals_156 : decode mX11_totals.2.1 156 = .ok (.iload_n 3, 1) := by decide +kernel
theorem dX11_totals_157 : decode mX11_totals.2.1 157 = .ok (.i2l, 1) := by decide +kernel
theorem dX11_totals_158 : decode mX11_totals.2.1 158 = .ok (.lmul, 1) := by decide +kernel
theorem dX11_totals_159 : decode mX11_totals.2.1 159 = .ok (.putfield 541, 3) := by decide +kernel
theorem dX11_totals_162 : decode mX11_totals.2.1 162 = .ok (.iinc 2 1, 3) := by decide +kernel
theorem dX11_totals_165 : decode mX11_totals.2.1 165 = .ok (.goto (-153), 3) := by decide +kernel
theorem dX11_totals_168 : decode mX11_totals.2.1 168 = .ok (.iconst 1, 1) := by decide +kernel
theorem dX11_totals_169 : decode mX11_totals.2.1 169 = .ok (.ireturn, 1) := by decide +kernel
theorem dX11_total_0 : decode mX11_total.2.1 0 = .ok (.aload_n 0, 1) := by decide +kernel
theorem dX11_total_1 : decode mX11_total.2.1 1 = .ok (.iconst 0, 1) := by decide +kernel
theorem dX11_total_2 : decode mX11_total.2.1 2 = .ok (.putfield 213, 3) := by decide +kernel
theorem dX11_total_5 : decode mX11_total.2.1 5 = .ok (.aload_n 0, 1) := by decide +kernel
theorem dX11_total_6 : decode mX11_total.2.1 6 = .ok (.iconst 0, 1) := by decide +kernel
theorem dX11_total_7 : decode mX11_total.2.1 7 = .ok (.putfield 216, 3) := by decide +kernel
theorem dX11_total_10 : decode mX11_total.2.1 10 = .ok (.iload_n 1, 1) := by decide +kernel
theorem dX11_total_11 : decode mX11_total.2.1 11 = .ok (.i2l, 1) := by decide +kernel
theorem dX11_total_12 : decode mX11_total.2.1 12 = .ok (.lconst 0, 1) := by decide +kernel
theorem dX11_total_13 : decode mX11_total.2.1 13 = .ok (.ldc2_w 530, 3) := by decide +kernel
theorem dX11_total_16 : decode mX11_total.2.1 16 = .ok (.invokestatic 221, 3) := by decide +kernel
theorem dX11_total_19 : decode mX11_total.2.1 19 = .ok (.ifCond .ne 9, 3) := by decide +kernel
theorem dX11_total_22 : decode mX11_total.2.1 22 = .ok (.aload_n 0, 1) := by decide +kernel
theorem dX11_total_23 : decode mX11_total.2.1 23 = .ok (.iconst 2, 1) := by decide +kernel
theorem dX11_total_24 : decode mX11_total.2.1 24 = .ok (.invokevirtual 227, 3) := by decide +kernel
theorem dX11_total_27 : decode mX11_total.2.1 27 = .ok (.ireturn, 1) := by decide +kernel
theorem dX11_total_28 : decode mX11_total.2.1 28 = .ok (.aload_n 0, 1) := by decide +kernel
theorem dX11_total_29 : decode mX11_total.2.1 29 = .ok (.iload_n 1, 1) := by decide +kernel
theorem dX11_total_30 : decode mX11_total.2.1 30 = .ok (.invokevirtual 544, 3) := by decide +kernel
theorem dX11_total_33 : decode mX11_total.2.1 33 = .ok (.ifCond .ne 10, 3) := by decide +kernel
theorem dX11_total_36 : decode mX11_total.2.1 36 = .ok (.aload_n 0, 1) := by decide +kernel
theorem dX11_total_37 : decode mX11_total.2.1 37 = .ok (.bipush 8, 2) := by decide +kernel
theorem dX11_total_39 : decode mX11_total.2.1 39 = .ok (.invokevirtual 227, 3) := by decide +kernel
theorem dX11_total_42 : decode mX11_total.2.1 42 = .ok (.ireturn, 1) := by decide +kernel
theorem dX11_total_43 : decode mX11_total.2.1 43 = .ok (.aload_n 0, 1) := by decide +kernel
theorem dX11_total_44 : decode mX11_total.2.1 44 = .ok (.getfield 538, 3) := by decide +kernel
theorem dX11_total_47 : decode mX11_total.2.1 47 = .ok (.aload_n 0, 1) := by decide +kernel
theorem dX11_total_48 : decode mX11_total.2.1 48 = .ok (.getfield 541, 3) := by decide +kernel
theorem dX11_total_51 : decode mX11_total.2.1 51 = .ok (.invokestatic 547, 3) := by decide +kernel
theorem dX11_total_54 : decode mX11_total.2.1 54 = .ok (.lstore_n 2, 1) := by decide +kernel
theorem dX11_total_55 : decode mX11_total.2.1 55 = .ok (.aload_n 0, 1) := by decide +kernel
theorem dX11_total_56 : decode mX11_total.2.1 56 = .ok (.aload_n 0, 1) := by decide +kernel
theorem dX11_total_57 : decode mX11_total.2.1 57 = .ok (.getfield 538, 3) := by decide +kernel
theorem dX11_total_60 : decode mX11_total.2.1 60 = .ok (.lload_n 2, 1) := by decide +kernel
theorem dX11_total_61 : decode mX11_total.2.1 61 = .ok (.ldiv, 1) := by decide +kernel
theorem dX11_total_62 : decode mX11_total.2.1 62 = .ok (.putfield 551, 3) := by decide +kernel
theorem dX11_total_65 : decode mX11_total.2.1 65 = .ok (.aload_n 0, 1) := by decide +kernel
theorem dX11_total_66 : decode mX11_total.2.1 66 = .ok (.aload_n 0, 1) := by decide +kernel
theorem dX11_total_67 : decode mX11_total.2.1 67 = .ok (.getfield 541, 3) := by decide +kernel
theorem dX11_total_70 : decode mX11_total.2.1 70 = .ok (.lload_n 2, 1) := by decide +kernel
theorem dX11_total_71 : decode mX11_total.2.1 71 = .ok (.ldiv, 1) := by decide +kernel
theorem dX11_total_72 : decode mX11_total.2.1 72 = .ok (.putfield 7, 3) := by decide +kernel
theorem dX11_total_75 : decode mX11_total.2.1 75 = .ok (.iconst 1, 1) := by decide +kernel
theorem dX11_total_76 : decode mX11_total.2.1 76 = .ok (.ireturn, 1) := by decide +kernel
theorem dX11_upper_0 : decode mX11_upper.2.1 0 = .ok (.aload_n 0, 1) := by decide +kernel
theorem dX11_upper_1 : decode mX11_upper.2.1 1 = .ok (.iconst 0, 1) := by decide +kernel
theorem dX11_upper_2 : decode mX11_upper.2.1 2 = .ok (.putfield 213, 3) := by decide +kernel
theorem dX11_upper_5 : decode mX11_upper.2.1 5 = .ok (.aload_n 0, 1) := by decide +kernel
theorem dX11_upper_6 : decode mX11_upper.2.1 6 = .ok (.getfield 551, 3) := by decide +kernel
theorem dX11_upper_9 : decode mX11_upper.2.1 9 = .ok (.lreturn, 1) := by decide +kernel
theorem dX11_lower_0 : decode mX11_lower.2.1 0 = .ok (.aload_n 0, 1) := by decide +kernel
theorem dX11_lower_1 : decode mX11_lower.2.1 1 = .ok (.iconst 0, 1) := by decide +kernel
theorem dX11_lower_2 : decode mX11_lower.2.1 2 = .ok (.putfield 213, 3) := by decide +kernel
theorem dX11_lower_5 : decode mX11_lower.2.1 5 = .ok (.aload_n 0, 1) := by decide +kernel
theorem dX11_lower_6 : decode mX11_lower.2.1 6 = .ok (.getfield 7, 3) := by decide +kernel
theorem dX11_lower_9 : decode mX11_lower.2.1 9 = .ok (.lreturn, 1) := by decide +kernel
theorem dX11_rank_0 : decode mX11_rank.2.1 0 = .ok (.aload_n 0, 1) := by decide +kernel
theorem dX11_rank_1 : decode mX11_rank.2.1 1 = .ok (.iconst 0, 1) := by decide +kernel
theorem dX11_rank_2 : decode mX11_rank.2.1 2 = .ok (.putfield 213, 3) := by decide +kernel
theorem dX11_rank_5 : decode mX11_rank.2.1 5 = .ok (.aload_n 0, 1) := by decide +kernel
theorem dX11_rank_6 : decode mX11_rank.2.1 6 = .ok (.iconst 0, 1) := by decide +kernel
theorem dX11_rank_7 : decode mX11_rank.2.1 7 = .ok (.putfield 216, 3) := by decide +kernel
theorem dX11_rank_10 : decode mX11_rank.2.1 10 = .ok (.iload_n 1, 1) := by decide +kernel
theorem dX11_rank_11 : decode mX11_rank.2.1 11 = .ok (.i2l, 1) := by decide +kernel
theorem dX11_rank_12 : decode mX11_rank.2.1 12 = .ok (.lconst 0, 1) := by decide +kernel
theorem dX11_rank_13 : decode mX11_rank.2.1 13 = .ok (.ldc2_w 530, 3) := by decide +kernel
theorem dX11_rank_16 : decode mX11_rank.2.1 16 = .ok (.invokestatic 221, 3) := by decide +kernel
theorem dX11_rank_19 : decode mX11_rank.2.1 19 = .ok (.ifCond .ne 9, 3) := by decide +kernel
theorem dX11_rank_22 : decode mX11_rank.2.1 22 = .ok (.aload_n 0, 1) := by decide +kernel
theorem dX11_rank_23 : decode mX11_rank.2.1 23 = .ok (.iconst 2, 1) := by decide +kernel
theorem dX11_rank_24 : decode mX11_rank.2.1 24 = .ok (.invokevirtual 254, 3) := by decide +kernel
theorem dX11_rank_27 : decode mX11_rank.2.1 27 = .ok (.ireturn, 1) := by decide +kernel
theorem dX11_rank_28 : decode mX11_rank.2.1 28 = .ok (.aload_n 0, 1) := by decide +kernel
theorem dX11_rank_29 : decode mX11_rank.2.1 29 = .ok (.iload_n 1, 1) := by decide +kernel
theorem dX11_rank_30 : decode mX11_rank.2.1 30 = .ok (.invokevirtual 544, 3) := by decide +kernel
theorem dX11_rank_33 : decode mX11_rank.2.1 33 = .ok (.ifCond .ne 10, 3) := by decide +kernel
theorem dX11_rank_36 : decode mX11_rank.2.1 36 = .ok (.aload_n 0, 1) := by decide +kernel
theorem dX11_rank_37 : decode mX11_rank.2.1 37 = .ok (.bipush 8, 2) := by decide +kernel
theorem dX11_rank_39 : decode mX11_rank.2.1 39 = .ok (.invokevirtual 254, 3) := by decide +kernel
theorem dX11_rank_42 : decode mX11_rank.2.1 42 = .ok (.ireturn, 1) := by decide +kernel
theorem dX11_rank_43 : decode mX11_rank.2.1 43 = .ok (.aload_n 0, 1) := by decide +kernel
theorem dX11_rank_44 : decode mX11_rank.2.1 44 = .ok (.getfield 538, 3) := by decide +kernel
theorem dX11_rank_47 : decode mX11_rank.2.1 47 = .ok (.lstore_n 2, 1) := by decide +kernel
theorem dX11_rank_48 : decode mX11_rank.2.1 48 = .ok (.aload_n 0, 1) := by decide +kernel
theorem dX11_rank_49 : decode mX11_rank.2.1 49 = .ok (.getfield 541, 3) := by decide +kernel
theorem dX11_rank_52 : decode mX11_rank.2.1 52 = .ok (.lstore 4, 2) := by decide +kernel
theorem dX11_rank_54 : decode mX11_rank.2.1 54 = .ok (.iconst 1, 1) := by decide +kernel
theorem dX11_rank_55 : decode mX11_rank.2.1 55 = .ok (.istore 6, 2) := by decide +kernel
theorem dX11_rank_57 : decode mX11_rank.2.1 57 = .ok (.iconst 0, 1) := by decide +kernel
theorem dX11_rank_58 : decode mX11_rank.2.1 58 = .ok (.istore 7, 2) := by decide +kernel
theorem dX11_rank_60 : decode mX11_rank.2.1 60 = .ok (.iload 7, 2) := by decide +kernel
theorem dX11_rank_62 : decode mX11_rank.2.1 62 = .ok (.bipush 6, 2) := by decide +kernel
theorem dX11_rank_64 : decode mX11_rank.2.1 64 = .ok (.if_icmp .ge 51, 3) := by decide +kernel
theorem dX11_rank_67 : decode mX11_rank.2.1 67 = .ok (.iload 6, 2) := by decide +kernel
theorem dX11_rank_69 : decode mX11_rank.2.1 69 = .ok (.iload 7, 2) := by decide +kernel
theorem dX11_rank_71 : decode mX11_rank.2.1 71 = .ok (.iload_n 1, 1) := by decide +kernel
theorem dX11_rank_72 : decode mX11_rank.2.1 72 = .ok (.if_icmp .eq 33, 3) := by decide +kernel
theorem dX11_rank_75 : decode mX11_rank.2.1 75 = .ok (.aload_n 0, 1) := by decide +kernel
theorem dX11_rank_76 : decode mX11_rank.2.1 76 = .ok (.iload 7, 2) := by decide +kernel
theorem dX11_rank_78 : decode mX11_rank.2.1 78 = .ok (.invokevirtual 544, 3) := by decide +kernel
theorem dX11_rank_81 : decode mX11_rank.2.1 81 = .ok (.ifCond .eq 24, 3) := by decide +kernel
theorem dX11_rank_84 : decode mX11_rank.2.1 84 = .ok (.aload_n 0, 1) := by decide +kernel
theorem dX11_rank_85 : decode mX11_rank.2.1 85 = .ok (.getfield 538, 3) := by decide +kernel
theorem dX11_rank_88 : decode mX11_rank.2.1 88 = .ok (.lload 4, 2) := by decide +kernel
theorem dX11_rank_90 : decode mX11_rank.2.1 90 = .ok (.lmul, 1) := by decide +kernel
theorem dX11_rank_91 : decode mX11_rank.2.1 91 = .ok (.lload_n 2, 1) := by decide +kernel
theorem dX11_rank_92 : decode mX11_rank.2.1 92 = .ok (.aload_n 0, 1) := by decide +kernel
theorem dX11_rank_93 : decode mX11_rank.2.1 93 = .ok (.getfield 541, 3) := by decide +kernel
theorem dX11_rank_96 : decode mX11_rank.2.1 96 = .ok (.lmul, 1) := by decide +kernel
theorem dX11_rank_97 : decode mX11_rank.2.1 97 = .ok (.lcmp, 1) := by decide +kernel
theorem dX11_rank_98 : decode mX11_rank.2.1 98 = .ok (.ifCond .le 7, 3) := by decide +kernel
theorem dX11_rank_101 : decode mX11_rank.2.1 101 = .ok (.iconst 1, 1) := by decide +kernel
theorem dX11_rank_102 : decode mX11_rank.2.1 102 = .ok (.goto 4, 3) := by decide +kernel
theorem dX11_rank_105 : decode mX11_rank.2.1 105 = .ok (.iconst 0, 1) := by decide +kernel
theorem dX11_rank_106 : decode mX11_rank.2.1 106 = .ok (.iadd, 1) := by decide +kernel
theorem dX11_rank_107 : decode mX11_rank.2.1 107 = .ok (.istore 6, 2) := by decide +kernel
theorem dX11_rank_109 : decode mX11_rank.2.1 109 = .ok (.iinc 7 1, 3) := by decide +kernel
theorem dX11_rank_112 : decode mX11_rank.2.1 112 = .ok (.goto (-52), 3) := by decide +kernel
theorem dX11_rank_115 : decode mX11_rank.2.1 115 = .ok (.iload 6, 2) := by decide +kernel
theorem dX11_rank_117 : decode mX11_rank.2.1 117 = .ok (.ireturn, 1) := by decide +kernel
theorem dJ9_floorDiv_7cf53_0 : decode mJ9_floorDiv_7cf53.2.1 0 = .ok (.iload_n 0, 1) := by decide +kernel
theorem dJ9_floorDiv_7cf53_1 : decode mJ9_floorDiv_7cf53.2.1 1 = .ok (.iload_n 1, 1) := by decide +kernel
theorem dJ9_floorDiv_7cf53_2 : decode mJ9_floorDiv_7cf53.2.1 2 = .ok (.idiv, 1) := by decide +kernel
theorem dJ9_floorDiv_7cf53_3 : decode mJ9_floorDiv_7cf53.2.1 3 = .ok (.istore_n 2, 1) := by decide +kernel
theorem dJ9_floorDiv_7cf53_4 : decode mJ9_floorDiv_7cf53.2.1 4 = .ok (.iload_n 0, 1) := by decide +kernel
theorem dJ9_floorDiv_7cf53_5 : decode mJ9_floorDiv_7cf53.2.1 5 = .ok (.iload_n 1, 1) := by decide +kernel
theorem dJ9_floorDiv_7cf53_6 : decode mJ9_floorDiv_7cf53.2.1 6 = .ok (.ixor, 1) := by decide +kernel
theorem dJ9_floorDiv_7cf53_7 : decode mJ9_floorDiv_7cf53.2.1 7 = .ok (.ifCond .ge 14, 3) := by decide +kernel
theorem dJ9_floorDiv_7cf53_10 : decode mJ9_floorDiv_7cf53.2.1 10 = .ok (.iload_n 2, 1) := by decide +kernel
theorem dJ9_floorDiv_7cf53_11 : decode mJ9_floorDiv_7cf53.2.1 11 = .ok (.iload_n 1, 1) := by decide +kernel
theorem dJ9_floorDiv_7cf53_12 : decode mJ9_floorDiv_7cf53.2.1 12 = .ok (.imul, 1) := by decide +kernel
theorem dJ9_floorDiv_7cf53_13 : decode mJ9_floorDiv_7cf53.2.1 13 = .ok (.iload_n 0, 1) := by decide +kernel
theorem dJ9_floorDiv_7cf53_14 : decode mJ9_floorDiv_7cf53.2.1 14 = .ok (.if_icmp .eq 7, 3) := by decide +kernel
theorem dJ9_floorDiv_7cf53_17 : decode mJ9_floorDiv_7cf53.2.1 17 = .ok (.iload_n 2, 1) := by decide +kernel
theorem dJ9_floorDiv_7cf53_18 : decode mJ9_floorDiv_7cf53.2.1 18 = .ok (.iconst 1, 1) := by decide +kernel
theorem dJ9_floorDiv_7cf53_19 : decode mJ9_floorDiv_7cf53.2.1 19 = .ok (.isub, 1) := by decide +kernel
theorem dJ9_floorDiv_7cf53_20 : decode mJ9_floorDiv_7cf53.2.1 20 = .ok (.ireturn, 1) := by decide +kernel
theorem dJ9_floorDiv_7cf53_21 : decode mJ9_floorDiv_7cf53.2.1 21 = .ok (.iload_n 2, 1) := by decide +kernel
theorem dJ9_floorDiv_7cf53_22 : decode mJ9_floorDiv_7cf53.2.1 22 = .ok (.ireturn, 1) := by decide +kernel
theorem dJ9_max_7cf53_0 : decode mJ9_max_7cf53.2.1 0 = .ok (.iload_n 0, 1) := by decide +kernel
theorem dJ9_max_7cf53_1 : decode mJ9_max_7cf53.2.1 1 = .ok (.iload_n 1, 1) := by decide +kernel
theorem dJ9_max_7cf53_2 : decode mJ9_max_7cf53.2.1 2 = .ok (.if_icmp .lt 7, 3) := by decide +kernel
theorem dJ9_max_7cf53_5 : decode mJ9_max_7cf53.2.1 5 = .ok (.iload_n 0, 1) := by decide +kernel
theorem dJ9_max_7cf53_6 : decode mJ9_max_7cf53.2.1 6 = .ok (.goto 4, 3) := by decide +kernel
theorem dJ9_max_7cf53_9 : decode mJ9_max_7cf53.2.1 9 = .ok (.iload_n 1, 1) := by decide +kernel
theorem dJ9_max_7cf53_10 : decode mJ9_max_7cf53.2.1 10 = .ok (.ireturn, 1) := by decide +kernel
theorem dJ9_min_7cf53_0 : decode mJ9_min_7cf53.2.1 0 = .ok (.iload_n 0, 1) := by decide +kernel
theorem dJ9_min_7cf53_1 : decode mJ9_min_7cf53.2.1 1 = .ok (.iload_n 1, 1) := by decide +kernel
theorem dJ9_min_7cf53_2 : decode mJ9_min_7cf53.2.1 2 = .ok (.if_icmp .gt 7, 3) := by decide +kernel
theorem dJ9_min_7cf53_5 : decode mJ9_min_7cf53.2.1 5 = .ok (.iload_n 0, 1) := by decide +kernel
theorem dJ9_min_7cf53_6 : decode mJ9_min_7cf53.2.1 6 = .ok (.goto 4, 3) := by decide +kernel
theorem dJ9_min_7cf53_9 : decode mJ9_min_7cf53.2.1 9 = .ok (.iload_n 1, 1) := by decide +kernel
theorem dJ9_min_7cf53_10 : decode mJ9_min_7cf53.2.1 10 = .ok (.ireturn, 1) := by decide +kernel
theorem dJ7_fill_d0a16_0 : decode mJ7_fill_d0a16.2.1 0 = .ok (.iconst 0, 1) := by decide +kernel
theorem dJ7_fill_d0a16_1 : decode mJ7_fill_d0a16.2.1 1 = .ok (.istore_n 3, 1) := by decide +kernel
theorem dJ7_fill_d0a16_2 : decode mJ7_fill_d0a16.2.1 2 = .ok (.aload_n 0, 1) := by decide +kernel
theorem dJ7_fill_d0a16_3 : decode mJ7_fill_d0a16.2.1 3 = .ok (.arraylength, 1) := by decide +kernel
theorem dJ7_fill_d0a16_4 : decode mJ7_fill_d0a16.2.1 4 = .ok (.istore 4, 2) := by decide +kernel
theorem dJ7_fill_d0a16_6 : decode mJ7_fill_d0a16.2.1 6 = .ok (.iload_n 3, 1) := by decide +kernel
theorem dJ7_fill_d0a16_7 : decode mJ7_fill_d0a16.2.1 7 = .ok (.iload 4, 2) := by decide +kernel
theorem dJ7_fill_d0a16_9 : decode mJ7_fill_d0a16.2.1 9 = .ok (.if_icmp .ge 13, 3) := by decide +kernel
theorem dJ7_fill_d0a16_12 : decode mJ7_fill_d0a16.2.1 12 = .ok (.aload_n 0, 1) := by decide +kernel
theorem dJ7_fill_d0a16_13 : decode mJ7_fill_d0a16.2.1 13 = .ok (.iload_n 3, 1) := by decide +kernel
theorem dJ7_fill_d0a16_14 : decode mJ7_fill_d0a16.2.1 14 = .ok (.lload_n 1, 1) := by decide +kernel
theorem dJ7_fill_d0a16_15 : decode mJ7_fill_d0a16.2.1 15 = .ok (.lastore, 1) := by decide +kernel
theorem dJ7_fill_d0a16_16 : decode mJ7_fill_d0a16.2.1 16 = .ok (.iinc 3 1, 3) := by decide +kernel
theorem dJ7_fill_d0a16_19 : decode mJ7_fill_d0a16.2.1 19 = .ok (.goto (-13), 3) := by decide +kernel
theorem dJ7_fill_d0a16_22 : decode mJ7_fill_d0a16.2.1 22 = .ok (.return_, 1) := by decide +kernel
theorem dJ7_fill_53178_0 : decode mJ7_fill_53178.2.1 0 = .ok (.iconst 0, 1) := by decide +kernel
theorem dJ7_fill_53178_1 : decode mJ7_fill_53178.2.1 1 = .ok (.istore_n 2, 1) := by decide +kernel
theorem dJ7_fill_53178_2 : decode mJ7_fill_53178.2.1 2 = .ok (.aload_n 0, 1) := by decide +kernel
theorem dJ7_fill_53178_3 : decode mJ7_fill_53178.2.1 3 = .ok (.arraylength, 1) := by decide +kernel
theorem dJ7_fill_53178_4 : decode mJ7_fill_53178.2.1 4 = .ok (.istore_n 3, 1) := by decide +kernel
theorem dJ7_fill_53178_5 : decode mJ7_fill_53178.2.1 5 = .ok (.iload_n 2, 1) := by decide +kernel
theorem dJ7_fill_53178_6 : decode mJ7_fill_53178.2.1 6 = .ok (.iload_n 3, 1) := by decide +kernel
theorem dJ7_fill_53178_7 : decode mJ7_fill_53178.2.1 7 = .ok (.if_icmp .ge 13, 3) := by decide +kernel
theorem dJ7_fill_53178_10 : decode mJ7_fill_53178.2.1 10 = .ok (.aload_n 0, 1) := by decide +kernel
theorem dJ7_fill_53178_11 : decode mJ7_fill_53178.2.1 11 = .ok (.iload_n 2, 1) := by decide +kernel
theorem dJ7_fill_53178_12 : decode mJ7_fill_53178.2.1 12 = .ok (.iload_n 1, 1) := by decide +kernel
theorem dJ7_fill_53178_13 : decode mJ7_fill_53178.2.1 13 = .ok (.iastore, 1) := by decide +kernel
theorem dJ7_fill_53178_14 : decode mJ7_fill_53178.2.1 14 = .ok (.iinc 2 1, 3) := by decide +kernel
theorem dJ7_fill_53178_17 : decode mJ7_fill_53178.2.1 17 = .ok (.goto (-12), 3) := by decide +kernel
theorem dJ7_fill_53178_20 : decode mJ7_fill_53178.2.1 20 = .ok (.return_, 1) := by decide +kernel
theorem dJ7_fill_031fb_0 : decode mJ7_fill_031fb.2.1 0 = .ok (.iconst 0, 1) := by decide +kernel
theorem dJ7_fill_031fb_1 : decode mJ7_fill_031fb.2.1 1 = .ok (.istore_n 2, 1) := by decide +kernel
theorem dJ7_fill_031fb_2 : decode mJ7_fill_031fb.2.1 2 = .ok (.aload_n 0, 1) := by decide +kernel
theorem dJ7_fill_031fb_3 : decode mJ7_fill_031fb.2.1 3 = .ok (.arraylength, 1) := by decide +kernel
theorem dJ7_fill_031fb_4 : decode mJ7_fill_031fb.2.1 4 = .ok (.istore_n 3, 1) := by decide +kernel
theorem dJ7_fill_031fb_5 : decode mJ7_fill_031fb.2.1 5 = .ok (.iload_n 2, 1) := by decide +kernel
theorem dJ7_fill_031fb_6 : decode mJ7_fill_031fb.2.1 6 = .ok (.iload_n 3, 1) := by decide +kernel
theorem dJ7_fill_031fb_7 : decode mJ7_fill_031fb.2.1 7 = .ok (.if_icmp .ge 13, 3) := by decide +kernel
theorem dJ7_fill_031fb_10 : decode mJ7_fill_031fb.2.1 10 = .ok (.aload_n 0, 1) := by decide +kernel
theorem dJ7_fill_031fb_11 : decode mJ7_fill_031fb.2.1 11 = .ok (.iload_n 2, 1) := by decide +kernel
theorem dJ7_fill_031fb_12 : decode mJ7_fill_031fb.2.1 12 = .ok (.iload_n 1, 1) := by decide +kernel
theorem dJ7_fill_031fb_13 : decode mJ7_fill_031fb.2.1 13 = .ok (.bastore, 1) := by decide +kernel
theorem dJ7_fill_031fb_14 : decode mJ7_fill_031fb.2.1 14 = .ok (.iinc 2 1, 3) := by decide +kernel
theorem dJ7_fill_031fb_17 : decode mJ7_fill_031fb.2.1 17 = .ok (.goto (-12), 3) := by decide +kernel
theorem dJ7_fill_031fb_20 : decode mJ7_fill_031fb.2.1 20 = .ok (.return_, 1) := by decide +kernel
theorem dL_law_0 : decode mL_law.2.1 0 = .ok (.new 7, 3) := by decide +kernel
theorem dL_law_3 : decode mL_law.2.1 3 = .ok (.dup, 1) := by decide +kernel
theorem dL_law_4 : decode mL_law.2.1 4 = .ok (.invokespecial 9, 3) := by decide +kernel
theorem dL_law_7 : decode mL_law.2.1 7 = .ok (.astore_n 1, 1) := by decide +kernel
theorem dL_law_8 : decode mL_law.2.1 8 = .ok (.new 10, 3) := by decide +kernel
theorem dL_law_11 : decode mL_law.2.1 11 = .ok (.dup, 1) := by decide +kernel
theorem dL_law_12 : decode mL_law.2.1 12 = .ok (.invokespecial 12, 3) := by decide +kernel
theorem dL_law_15 : decode mL_law.2.1 15 = .ok (.astore_n 2, 1) := by decide +kernel
theorem dL_law_16 : decode mL_law.2.1 16 = .ok (.iconst 0, 1) := by decide +kernel
theorem dL_law_17 : decode mL_law.2.1 17 = .ok (.istore_n 3, 1) := by decide +kernel
theorem dL_law_18 : decode mL_law.2.1 18 = .ok (.iload_n 3, 1) := by decide +kernel
theorem dL_law_19 : decode mL_law.2.1 19 = .ok (.aload_n 0, 1) := by decide +kernel
theorem dL_law_20 : decode mL_law.2.1 20 = .ok (.arraylength, 1) := by decide +kernel
theorem dL_law_21 : decode mL_law.2.1 21 = .ok (.bipush 6, 2) := by decide +kernel
theorem dL_law_23 : decode mL_law.2.1 23 = .ok (.isub, 1) := by decide +kernel
theorem dL_law_24 : decode mL_law.2.1 24 = .ok (.if_icmp .gt 1361, 3) := by decide +kernel
theorem dL_law_27 : decode mL_law.2.1 27 = .ok (.aload_n 0, 1) := by decide +kernel
theorem dL_law_28 : decode mL_law.2.1 28 = .ok (.iload_n 3, 1) := by decide +kernel
theorem dL_law_29 : decode mL_law.2.1 29 = .ok (.iaload, 1) := by decide +kernel
theorem dL_law_30 : decode mL_law.2.1 30 = .ok (.bipush 63, 2) := by decide +kernel
theorem dL_law_32 : decode mL_law.2.1 32 = .ok (.iand, 1) := by decide +kernel
theorem dL_law_33 : decode mL_law.2.1 33 = .ok (.tableswitch 1346 0 33 #[151, 164, 207, 280, 314, 377, 420, 453, 516, 539, 602, 625, 648, 661, 684, 727, 750, 783, 816, 849, 892, 935, 958, 1011, 1034, 1057, 1110, 1143, 1186, 1239, 1272, 1295, 1309, 1323], 151) := by decide +kernel
theorem dL_law_184 : decode mL_law.2.1 184 = .ok (.aload_n 1, 1) := by decide +kernel
theorem dL_law_185 : decode mL_law.2.1 185 = .ok (.invokevirtual 13, 3) := by decide +kernel
theorem dL_law_188 : decode mL_law.2.1 188 = .ok (.aload_n 2, 1) := by decide +kernel
theorem dL_law_189 : decode mL_law.2.1 189 = .ok (.invokevirtual 17, 3) := by decide +kernel
theorem dL_law_192 : decode mL_law.2.1 192 = .ok (.if_icmp .eq 1187, 3) := by decide +kernel
theorem dL_law_195 : decode mL_law.2.1 195 = .ok (.iconst 0, 1) := by decide +kernel
theorem dL_law_196 : decode mL_law.2.1 196 = .ok (.ireturn, 1) := by decide +kernel
theorem dL_law_197 : decode mL_law.2.1 197 = .ok (.aload_n 1, 1) := by decide +kernel
theorem dL_law_198 : decode mL_law.2.1 198 = .ok (.aload_n 0, 1) := by decide +kernel
theorem dL_law_199 : decode mL_law.2.1 199 = .ok (.iload_n 3, 1) := by decide +kernel
theorem dL_law_200 : decode mL_law.2.1 200 = .ok (.iconst 1, 1) := by decide +kernel
theorem dL_law_201 : decode mL_law.2.1 201 = .ok (.iadd, 1) := by decide +kernel
theorem dL_law_202 : decode mL_law.2.1 202 = .ok (.iaload, 1) := by decide +kernel
theorem dL_law_203 : decode mL_law.2.1 203 = .ok (.aload_n 0, 1) := by decide +kernel
theorem dL_law_204 : decode mL_law.2.1 204 = .ok (.iload_n 3, 1) := by decide +kernel
theorem dL_law_205 : decode mL_law.2.1 205 = .ok (.iconst 2, 1) := by decide +kernel
theorem dL_law_206 : decode mL_law.2.1 206 = .ok (.iadd, 1) := by decide +kernel
theorem dL_law_207 : decode mL_law.2.1 207 = .ok (.iaload, 1) := by decide +kernel
theorem dL_law_208 : decode mL_law.2.1 208 = .ok (.aload_n 0, 1) := by decide +kernel
theorem dL_law_209 : decode mL_law.2.1 209 = .ok (.iload_n 3, 1) := by decide +kernel
theorem dL_law_210 : decode mL_law.2.1 210 = .ok (.iconst 3, 1) := by decide +kernel
theorem dL_law_211 : decode mL_law.2.1 211 = .ok (.iadd, 1) := by decide +kernel
theorem dL_law_212 : decode mL_law.2.1 212 = .ok (.iaload, 1) := by decide +kernel
theorem dL_law_213 : decode mL_law.2.1 213 = .ok (.invokevirtual 18, 3) := by decide +kernel
theorem dL_law_216 : decode mL_law.2.1 216 = .ok (.aload_n 2, 1) := by decide +kernel
theorem dL_law_217 : decode mL_law.2.1 217 = .ok (.aload_n 0, 1) := by decide +kernel
theorem dL_law_218 : decode mL_law.2.1 218 = .ok (.iload_n 3, 1) := by decide +kernel
theorem dL_law_219 : decode mL_law.2.1 219 = .ok (.iconst 1, 1) := by decide +kernel
theorem dL_law_220 : decode mL_law.2.1 220 = .ok (.iadd, 1) := by decide +kernel
theorem dL_law_221 : decode mL_law.2.1 221 = .ok (.iaload, 1) := by decide +kernel
theorem dL_law_222 : decode mL_law.2.1 222 = .ok (.aload_n 0, 1) := by decide +kernel
theorem dL_law_223 : decode mL_law.2.1 223 = .ok (.iload_n 3, 1) := by decide +kernel
theorem dL_law_224 : decode mL_law.2.1 224 = .ok (.iconst 2, 1) := by decide +kernel
theorem dL_law_225 : decode mL_law.2.1 225 = .ok (.iadd, 1) := by decide +kernel
theorem dL_law_226 : decode mL_law.2.1 226 = .ok (.iaload, 1) := by decide +kernel
theorem dL_law_227 : decode mL_law.2.1 227 = .ok (.aload_n 0, 1) := by decide +kernel
theorem dL_law_228 : decode mL_law.2.1 228 = .ok (.iload_n 3, 1) := by decide +kernel
theorem dL_law_229 : decode mL_law.2.1 229 = .ok (.iconst 3, 1) := by decide +kernel
theorem dL_law_230 : decode mL_law.2.1 230 = .ok (.iadd, 1) := by decide +kernel
theorem dL_law_231 : decode mL_law.2.1 231 = .ok (.iaload, 1) := by decide +kernel
theorem dL_law_232 : decode mL_law.2.1 232 = .ok (.invokevirtual 22, 3) := by decide +kernel
theorem dL_law_235 : decode mL_law.2.1 235 = .ok (.if_icmp .eq 1144, 3) := by decide +kernel
theorem dL_law_238 : decode mL_law.2.1 238 = .ok (.iconst 0, 1) := by decide +kernel
theorem dL_law_239 : decode mL_law.2.1 239 = .ok (.ireturn, 1) := by decide +kernel
theorem dL_law_240 : decode mL_law.2.1 240 = .ok (.aload_n 1, 1) := by decide +kernel
theorem dL_law_241 : decode mL_law.2.1 241 = .ok (.aload_n 0, 1) := by decide +kernel
theorem dL_law_242 : decode mL_law.2.1 242 = .ok (.iload_n 3, 1) := by decide +kernel
theorem dL_law_243 : decode mL_law.2.1 243 = .ok (.iconst 1, 1) := by decide +kernel
theorem dL_law_244 : decode mL_law.2.1 244 = .ok (.iadd, 1) := by decide +kernel
theorem dL_law_245 : decode mL_law.2.1 245 = .ok (.iaload, 1) := by decide +kernel
theorem dL_law_246 : decode mL_law.2.1 246 = .ok (.aload_n 0, 1) := by decide +kernel
theorem dL_law_247 : decode mL_law.2.1 247 = .ok (.iload_n 3, 1) := by decide +kernel
theorem dL_law_248 : decode mL_law.2.1 248 = .ok (.iconst 2, 1) := by decide +kernel
theorem dL_law_249 : decode mL_law.2.1 249 = .ok (.iadd, 1) := by decide +kernel
theorem dL_law_250 : decode mL_law.2.1 250 = .ok (.iaload, 1) := by decide +kernel
theorem dL_law_251 : decode mL_law.2.1 251 = .ok (.aload_n 0, 1) := by decide +kernel
theorem dL_law_252 : decode mL_law.2.1 252 = .ok (.iload_n 3, 1) := by decide +kernel
theorem dL_law_253 : decode mL_law.2.1 253 = .ok (.iconst 3, 1) := by decide +kernel
theorem dL_law_254 : decode mL_law.2.1 254 = .ok (.iadd, 1) := by decide +kernel
theorem dL_law_255 : decode mL_law.2.1 255 = .ok (.iaload, 1) := by decide +kernel
theorem dL_law_256 : decode mL_law.2.1 256 = .ok (.i2l, 1) := by decide +kernel
theorem dL_law_257 : decode mL_law.2.1 257 = .ok (.bipush 32, 2) := by decide +kernel
theorem dL_law_259 : decode mL_law.2.1 259 = .ok (.lshl, 1) := by decide +kernel
theorem dL_law_260 : decode mL_law.2.1 260 = .ok (.aload_n 0, 1) := by decide +kernel
theorem dL_law_261 : decode mL_law.2.1 261 = .ok (.iload_n 3, 1) := by decide +kernel
theorem dL_law_262 : decode mL_law.2.1 262 = .ok (.iconst 4, 1) := by decide +kernel
theorem dL_law_263 : decode mL_law.2.1 263 = .ok (.iadd, 1) := by decide +kernel
theorem dL_law_264 : decode mL_law.2.1 264 = .ok (.iaload, 1) := by decide +kernel
theorem dL_law_265 : decode mL_law.2.1 265 = .ok (.i2l, 1) := by decide +kernel
theorem dL_law_266 : decode mL_law.2.1 266 = .ok (.ldc2_w 23, 3) := by decide +kernel
theorem dL_law_269 : decode mL_law.2.1 269 = .ok (.land, 1) := by decide +kernel
theorem dL_law_270 : decode mL_law.2.1 270 = .ok (.lor, 1) := by decide +kernel
theorem dL_law_271 : decode mL_law.2.1 271 = .ok (.invokevirtual 25, 3) := by decide +kernel
theorem dL_law_274 : decode mL_law.2.1 274 = .ok (.aload_n 2, 1) := by decide +kernel
theorem dL_law_275 : decode mL_law.2.1 275 = .ok (.aload_n 0, 1) := by decide +kernel
theorem dL_law_276 : decode mL_law.2.1 276 = .ok (.iload_n 3, 1) := by decide +kernel
theorem dL_law_277 : decode mL_law.2.1 277 = .ok (.iconst 1, 1) := by decide +kernel
theorem dL_law_278 : decode mL_law.2.1 278 = .ok (.iadd, 1) := by decide +kernel
theorem dL_law_279 : decode mL_law.2.1 279 = .ok (.iaload, 1) := by decide +kernel
theorem dL_law_280 : decode mL_law.2.1 280 = .ok (.aload_n 0, 1) := by decide +kernel
theorem dL_law_281 : decode mL_law.2.1 281 = .ok (.iload_n 3, 1) := by decide +kernel
theorem dL_law_282 : decode mL_law.2.1 282 = .ok (.iconst 2, 1) := by decide +kernel
theorem dL_law_283 : decode mL_law.2.1 283 = .ok (.iadd, 1) := by decide +kernel
theorem dL_law_284 : decode mL_law.2.1 284 = .ok (.iaload, 1) := by decide +kernel
theorem dL_law_285 : decode mL_law.2.1 285 = .ok (.aload_n 0, 1) := by decide +kernel
theorem dL_law_286 : decode mL_law.2.1 286 = .ok (.iload_n 3, 1) := by decide +kernel
theorem dL_law_287 : decode mL_law.2.1 287 = .ok (.iconst 3, 1) := by decide +kernel
theorem dL_law_288 : decode mL_law.2.1 288 = .ok (.iadd, 1) := by decide +kernel
theorem dL_law_289 : decode mL_law.2.1 289 = .ok (.iaload, 1) := by decide +kernel
theorem dL_law_290 : decode mL_law.2.1 290 = .ok (.i2l, 1) := by decide +kernel
theorem dL_law_291 : decode mL_law.2.1 291 = .ok (.bipush 32, 2) := by decide +kernel
theorem dL_law_293 : decode mL_law.2.1 293 = .ok (.lshl, 1) := by decide +kernel
theorem dL_law_294 : decode mL_law.2.1 294 = .ok (.aload_n 0, 1) := by decide +kernel
theorem dL_law_295 : decode mL_law.2.1 295 = .ok (.iload_n 3, 1) := by decide +kernel
theorem dL_law_296 : decode mL_law.2.1 296 = .ok (.iconst 4, 1) := by decide +kernel
theorem dL_law_297 : decode mL_law.2.1 297 = .ok (.iadd, 1) := by decide +kernel
theorem dL_law_298 : decode mL_law.2.1 298 = .ok (.iaload, 1) := by decide +kernel
theorem dL_law_299 : decode mL_law.2.1 299 = .ok (.i2l, 1) := by decide +kernel
theorem dL_law_300 : decode mL_law.2.1 300 = .ok (.ldc2_w 23, 3) := by decide +kernel
theorem dL_law_303 : decode mL_law.2.1 303 = .ok (.land, 1) := by decide +kernel
theorem dL_law_304 : decode mL_law.2.1 304 = .ok (.lor, 1) := by decide +kernel
theorem dL_law_305 : decode mL_law.2.1 305 = .ok (.invokevirtual 29, 3) := by decide +kernel
theorem dL_law_308 : decode mL_law.2.1 308 = .ok (.if_icmp .eq 1071, 3) := by decide +kernel
theorem dL_law_311 : decode mL_law.2.1 311 = .ok (.iconst 0, 1) := by decide +kernel
theorem dL_law_312 : decode mL_law.2.1 312 = .ok (.ireturn, 1) := by decide +kernel
theorem dL_law_313 : decode mL_law.2.1 313 = .ok (.aload_n 1, 1) := by decide +kernel
theorem dL_law_314 : decode mL_law.2.1 314 = .ok (.aload_n 0, 1) := by decide +kernel
theorem dL_law_315 : decode mL_law.2.1 315 = .ok (.iload_n 3, 1) := by decide +kernel
theorem dL_law_316 : decode mL_law.2.1 316 = .ok (.iconst 1, 1) := by decide +kernel
theorem dL_law_317 : decode mL_law.2.1 317 = .ok (.iadd, 1) := by decide +kernel
theorem dL_law_318 : decode mL_law.2.1 318 = .ok (.iaload, 1) := by decide +kernel
theorem dL_law_319 : decode mL_law.2.1 319 = .ok (.aload_n 0, 1) := by decide +kernel
theorem dL_law_320 : decode mL_law.2.1 320 = .ok (.iload_n 3, 1) := by decide +kernel
theorem dL_law_321 : decode mL_law.2.1 321 = .ok (.iconst 2, 1) := by decide +kernel
theorem dL_law_322 : decode mL_law.2.1 322 = .ok (.iadd, 1) := by decide +kernel
theorem dL_law_323 : decode mL_law.2.1 323 = .ok (.iaload, 1) := by decide +kernel
theorem dL_law_324 : decode mL_law.2.1 324 = .ok (.invokevirtual 30, 3) := by decide +kernel
theorem dL_law_327 : decode mL_law.2.1 327 = .ok (.aload_n 2, 1) := by decide +kernel
theorem dL_law_328 : decode mL_law.2.1 328 = .ok (.aload_n 0, 1) := by decide +kernel
theorem dL_law_329 : decode mL_law.2.1 329 = .ok (.iload_n 3, 1) := by decide +kernel
theorem dL_law_330 : decode mL_law.2.1 330 = .ok (.iconst 1, 1) := by decide +kernel
theorem dL_law_331 : decode mL_law.2.1 331 = .ok (.iadd, 1) := by decide +kernel
theorem dL_law_332 : decode mL_law.2.1 332 = .ok (.iaload, 1) := by decide +kernel
theorem dL_law_333 : decode mL_law.2.1 333 = .ok (.aload_n 0, 1) := by decide +kernel
theorem dL_law_334 : decode mL_law.2.1 334 = .ok (.iload_n 3, 1) := by decide +kernel
theorem dL_law_335 : decode mL_law.2.1 335 = .ok (.iconst 2, 1) := by decide +kernel
theorem dL_law_336 : decode mL_law.2.1 336 = .ok (.iadd, 1) := by decide +kernel
theorem dL_law_337 : decode mL_law.2.1 337 = .ok (.iaload, 1) := by decide +kernel
theorem dL_law_338 : decode mL_law.2.1 338 = .ok (.invokevirtual 34, 3) := by decide +kernel
theorem dL_law_341 : decode mL_law.2.1 341 = .ok (.lcmp, 1) := by decide +kernel
theorem dL_law_342 : decode mL_law.2.1 342 = .ok (.ifCond .eq 1037, 3) := by decide +kernel
theorem dL_law_345 : decode mL_law.2.1 345 = .ok (.iconst 0, 1) := by decide +kernel
theorem dL_law_346 : decode mL_law.2.1 346 = .ok (.ireturn, 1) := by decide +kernel
theorem dL_law_347 : decode mL_law.2.1 347 = .ok (.aload_n 1, 1) := by decide +kernel
theorem dL_law_348 : decode mL_law.2.1 348 = .ok (.aload_n 0, 1) := by decide +kernel
theorem dL_law_349 : decode mL_law.2.1 349 = .ok (.iload_n 3, 1) := by decide +kernel
theorem dL_law_350 : decode mL_law.2.1 350 = .ok (.iconst 1, 1) := by decide +kernel
theorem dL_law_351 : decode mL_law.2.1 351 = .ok (.iadd, 1) := by decide +kernel
theorem dL_law_352 : decode mL_law.2.1 352 = .ok (.iaload, 1) := by decide +kernel
theorem dL_law_353 : decode mL_law.2.1 353 = .ok (.aload_n 0, 1) := by decide +kernel
theorem dL_law_354 : decode mL_law.2.1 354 = .ok (.iload_n 3, 1) := by decide +kernel
theorem dL_law_355 : decode mL_law.2.1 355 = .ok (.iconst 2, 1) := by decide +kernel
theorem dL_law_356 : decode mL_law.2.1 356 = .ok (.iadd, 1) := by decide +kernel
theorem dL_law_357 : decode mL_law.2.1 357 = .ok (.iaload, 1) := by decide +kernel
theorem dL_law_358 : decode mL_law.2.1 358 = .ok (.aload_n 0, 1) := by decide +kernel
theorem dL_law_359 : decode mL_law.2.1 359 = .ok (.iload_n 3, 1) := by decide +kernel
theorem dL_law_360 : decode mL_law.2.1 360 = .ok (.iconst 3, 1) := by decide +kernel
theorem dL_law_361 : decode mL_law.2.1 361 = .ok (.iadd, 1) := by decide +kernel
theorem dL_law_362 : decode mL_law.2.1 362 = .ok (.iaload, 1) := by decide +kernel
theorem dL_law_363 : decode mL_law.2.1 363 = .ok (.aload_n 0, 1) := by decide +kernel
theorem dL_law_364 : decode mL_law.2.1 364 = .ok (.iload_n 3, 1) := by decide +kernel
theorem dL_law_365 : decode mL_law.2.1 365 = .ok (.iconst 4, 1) := by decide +kernel
theorem dL_law_366 : decode mL_law.2.1 366 = .ok (.iadd, 1) := by decide +kernel
theorem dL_law_367 : decode mL_law.2.1 367 = .ok (.iaload, 1) := by decide +kernel
theorem dL_law_368 : decode mL_law.2.1 368 = .ok (.aload_n 0, 1) := by decide +kernel
theorem dL_law_369 : decode mL_law.2.1 369 = .ok (.iload_n 3, 1) := by decide +kernel
theorem dL_law_370 : decode mL_law.2.1 370 = .ok (.iconst 5, 1) := by decide +kernel
theorem dL_law_371 : decode mL_law.2.1 371 = .ok (.iadd, 1) := by decide +kernel
theorem dL_law_372 : decode mL_law.2.1 372 = .ok (.iaload, 1) := by decide +kernel
theorem dL_law_373 : decode mL_law.2.1 373 = .ok (.invokevirtual 35, 3) := by decide +kernel
theorem dL_law_376 : decode mL_law.2.1 376 = .ok (.aload_n 2, 1) := by decide +kernel
theorem dL_law_377 : decode mL_law.2.1 377 = .ok (.aload_n 0, 1) := by decide +kernel
theorem dL_law_378 : decode mL_law.2.1 378 = .ok (.iload_n 3, 1) := by decide +kernel
theorem dL_law_379 : decode mL_law.2.1 379 = .ok (.iconst 1, 1) := by decide +kernel
theorem dL_law_380 : decode mL_law.2.1 380 = .ok (.iadd, 1) := by decide +kernel
theorem dL_law_381 : decode mL_law.2.1 381 = .ok (.iaload, 1) := by decide +kernel
theorem dL_law_382 : decode mL_law.2.1 382 = .ok (.aload_n 0, 1) := by decide +kernel
theorem dL_law_383 : decode mL_law.2.1 383 = .ok (.iload_n 3, 1) := by decide +kernel
theorem dL_law_384 : decode mL_law.2.1 384 = .ok (.iconst 2, 1) := by decide +kernel
theorem dL_law_385 : decode mL_law.2.1 385 = .ok (.iadd, 1) := by decide +kernel
theorem dL_law_386 : decode mL_law.2.1 386 = .ok (.iaload, 1) := by decide +kernel
theorem dL_law_387 : decode mL_law.2.1 387 = .ok (.aload_n 0, 1) := by decide +kernel
theorem dL_law_388 : decode mL_law.2.1 388 = .ok (.iload_n 3, 1) := by decide +kernel
theorem dL_law_389 : decode mL_law.2.1 389 = .ok (.iconst 3, 1) := by decide +kernel
theorem dL_law_390 : decode mL_law.2.1 390 = .ok (.iadd, 1) := by decide +kernel
theorem dL_law_391 : decode mL_law.2.1 391 = .ok (.iaload, 1) := by decide +kernel
theorem dL_law_392 : decode mL_law.2.1 392 = .ok (.aload_n 0, 1) := by decide +kernel
theorem dL_law_393 : decode mL_law.2.1 393 = .ok (.iload_n 3, 1) := by decide +kernel
theorem dL_law_394 : decode mL_law.2.1 394 = .ok (.iconst 4, 1) := by decide +kernel
theorem dL_law_395 : decode mL_law.2.1 395 = .ok (.iadd, 1) := by decide +kernel
theorem dL_law_396 : decode mL_law.2.1 396 = .ok (.iaload, 1) := by decide +kernel
theorem dL_law_397 : decode mL_law.2.1 397 = .ok (.aload_n 0, 1) := by decide +kernel
theorem dL_law_398 : decode mL_law.2.1 398 = .ok (.iload_n 3, 1) := by decide +kernel
theorem dL_law_399 : decode mL_law.2.1 399 = .ok (.iconst 5, 1) := by decide +kernel
theorem dL_law_400 : decode mL_law.2.1 400 = .ok (.iadd, 1) := by decide +kernel
theorem dL_law_401 : decode mL_law.2.1 401 = .ok (.iaload, 1) := by decide +kernel
theorem dL_law_402 : decode mL_law.2.1 402 = .ok (.invokevirtual 39, 3) := by decide +kernel
theorem dL_law_405 : decode mL_law.2.1 405 = .ok (.if_icmp .eq 974, 3) := by decide +kernel
theorem dL_law_408 : decode mL_law.2.1 408 = .ok (.iconst 0, 1) := by decide +kernel
theorem dL_law_409 : decode mL_law.2.1 409 = .ok (.ireturn, 1) := by decide +kernel
theorem dL_law_410 : decode mL_law.2.1 410 = .ok (.aload_n 1, 1) := by decide +kernel
theorem dL_law_411 : decode mL_law.2.1 411 = .ok (.aload_n 0, 1) := by decide +kernel
theorem dL_law_412 : decode mL_law.2.1 412 = .ok (.iload_n 3, 1) := by decide +kernel
theorem dL_law_413 : decode mL_law.2.1 413 = .ok (.iconst 1, 1) := by decide +kernel
theorem dL_law_414 : decode mL_law.2.1 414 = .ok (.iadd, 1) := by decide +kernel
theorem dL_law_415 : decode mL_law.2.1 415 = .ok (.iaload, 1) := by decide +kernel
theorem dL_law_416 : decode mL_law.2.1 416 = .ok (.aload_n 0, 1) := by decide +kernel
theorem dL_law_417 : decode mL_law.2.1 417 = .ok (.iload_n 3, 1) := by decide +kernel
theorem dL_law_418 : decode mL_law.2.1 418 = .ok (.iconst 2, 1) := by decide +kernel
theorem dL_law_419 : decode mL_law.2.1 419 = .ok (.iadd, 1) := by decide +kernel
theorem dL_law_420 : decode mL_law.2.1 420 = .ok (.iaload, 1) := by decide +kernel
theorem dL_law_421 : decode mL_law.2.1 421 = .ok (.aload_n 0, 1) := by decide +kernel
theorem dL_law_422 : decode mL_law.2.1 422 = .ok (.iload_n 3, 1) := by decide +kernel
theorem dL_law_423 : decode mL_law.2.1 423 = .ok (.iconst 3, 1) := by decide +kernel
theorem dL_law_424 : decode mL_law.2.1 424 = .ok (.iadd, 1) := by decide +kernel
theorem dL_law_425 : decode mL_law.2.1 425 = .ok (.iaload, 1) := by decide +kernel
theorem dL_law_426 : decode mL_law.2.1 426 = .ok (.invokevirtual 40, 3) := by decide +kernel
theorem dL_law_429 : decode mL_law.2.1 429 = .ok (.aload_n 2, 1) := by decide +kernel
theorem dL_law_430 : decode mL_law.2.1 430 = .ok (.aload_n 0, 1) := by decide +kernel
theorem dL_law_431 : decode mL_law.2.1 431 = .ok (.iload_n 3, 1) := by decide +kernel
theorem dL_law_432 : decode mL_law.2.1 432 = .ok (.iconst 1, 1) := by decide +kernel
theorem dL_law_433 : decode mL_law.2.1 433 = .ok (.iadd, 1) := by decide +kernel
theorem dL_law_434 : decode mL_law.2.1 434 = .ok (.iaload, 1) := by decide +kernel
theorem dL_law_435 : decode mL_law.2.1 435 = .ok (.aload_n 0, 1) := by decide +kernel
theorem dL_law_436 : decode mL_law.2.1 436 = .ok (.iload_n 3, 1) := by decide +kernel
theorem dL_law_437 : decode mL_law.2.1 437 = .ok (.iconst 2, 1) := by decide +kernel
theorem dL_law_438 : decode mL_law.2.1 438 = .ok (.iadd, 1) := by decide +kernel
theorem dL_law_439 : decode mL_law.2.1 439 = .ok (.iaload, 1) := by decide +kernel
theorem dL_law_440 : decode mL_law.2.1 440 = .ok (.aload_n 0, 1) := by decide +kernel
theorem dL_law_441 : decode mL_law.2.1 441 = .ok (.iload_n 3, 1) := by decide +kernel
theorem dL_law_442 : decode mL_law.2.1 442 = .ok (.iconst 3, 1) := by decide +kernel
theorem dL_law_443 : decode mL_law.2.1 443 = .ok (.iadd, 1) := by decide +kernel
theorem dL_law_444 : decode mL_law.2.1 444 = .ok (.iaload, 1) := by decide +kernel
theorem dL_law_445 : decode mL_law.2.1 445 = .ok (.invokevirtual 44, 3) := by decide +kernel
theorem dL_law_448 : decode mL_law.2.1 448 = .ok (.if_icmp .eq 931, 3) := by decide +kernel
theorem dL_law_451 : decode mL_law.2.1 451 = .ok (.iconst 0, 1) := by decide +kernel
theorem dL_law_452 : decode mL_law.2.1 452 = .ok (.ireturn, 1) := by decide +kernel
theorem dL_law_453 : decode mL_law.2.1 453 = .ok (.aload_n 1, 1) := by decide +kernel
theorem dL_law_454 : decode mL_law.2.1 454 = .ok (.aload_n 0, 1) := by decide +kernel
theorem dL_law_455 : decode mL_law.2.1 455 = .ok (.iload_n 3, 1) := by decide +kernel
theorem dL_law_456 : decode mL_law.2.1 456 = .ok (.iconst 1, 1) := by decide +kernel
theorem dL_law_457 : decode mL_law.2.1 457 = .ok (.iadd, 1) := by decide +kernel
theorem dL_law_458 : decode mL_law.2.1 458 = .ok (.iaload, 1) := by decide +kernel
theorem dL_law_459 : decode mL_law.2.1 459 = .ok (.aload_n 0, 1) := by decide +kernel
theorem dL_law_460 : decode mL_law.2.1 460 = .ok (.iload_n 3, 1) := by decide +kernel
theorem dL_law_461 : decode mL_law.2.1 461 = .ok (.iconst 2, 1) := by decide +kernel
theorem dL_law_462 : decode mL_law.2.1 462 = .ok (.iadd, 1) := by decide +kernel
theorem dL_law_463 : decode mL_law.2.1 463 = .ok (.iaload, 1) := by decide +kernel
theorem dL_law_464 : decode mL_law.2.1 464 = .ok (.invokevirtual 45, 3) := by decide +kernel
theorem dL_law_467 : decode mL_law.2.1 467 = .ok (.aload_n 2, 1) := by decide +kernel
theorem dL_law_468 : decode mL_law.2.1 468 = .ok (.aload_n 0, 1) := by decide +kernel
theorem dL_law_469 : decode mL_law.2.1 469 = .ok (.iload_n 3, 1) := by decide +kernel
theorem dL_law_470 : decode mL_law.2.1 470 = .ok (.iconst 1, 1) := by decide +kernel
theorem dL_law_471 : decode mL_law.2.1 471 = .ok (.iadd, 1) := by decide +kernel
theorem dL_law_472 : decode mL_law.2.1 472 = .ok (.iaload, 1) := by decide +kernel
theorem dL_law_473 : decode mL_law.2.1 473 = .ok (.aload_n 0, 1) := by decide +kernel
theorem dL_law_474 : decode mL_law.2.1 474 = .ok (.iload_n 3, 1) := by decide +kernel
theorem dL_law_475 : decode mL_law.2.1 475 = .ok (.iconst 2, 1) := by decide +kernel
theorem dL_law_476 : decode mL_law.2.1 476 = .ok (.iadd, 1) := by decide +kernel
theorem dL_law_477 : decode mL_law.2.1 477 = .ok (.iaload, 1) := by decide +kernel
theorem dL_law_478 : decode mL_law.2.1 478 = .ok (.invokevirtual 49, 3) := by decide +kernel
theorem dL_law_481 : decode mL_law.2.1 481 = .ok (.if_icmp .eq 898, 3) := by decide +kernel
theorem dL_law_484 : decode mL_law.2.1 484 = .ok (.iconst 0, 1) := by decide +kernel
theorem dL_law_485 : decode mL_law.2.1 485 = .ok (.ireturn, 1) := by decide +kernel
theorem dL_law_486 : decode mL_law.2.1 486 = .ok (.aload_n 1, 1) := by decide +kernel
theorem dL_law_487 : decode mL_law.2.1 487 = .ok (.aload_n 0, 1) := by decide +kernel
theorem dL_law_488 : decode mL_law.2.1 488 = .ok (.iload_n 3, 1) := by decide +kernel
theorem dL_law_489 : decode mL_law.2.1 489 = .ok (.iconst 1, 1) := by decide +kernel
theorem dL_law_490 : decode mL_law.2.1 490 = .ok (.iadd, 1) := by decide +kernel
theorem dL_law_491 : decode mL_law.2.1 491 = .ok (.iaload, 1) := by decide +kernel
theorem dL_law_492 : decode mL_law.2.1 492 = .ok (.i2l, 1) := by decide +kernel
theorem dL_law_493 : decode mL_law.2.1 493 = .ok (.bipush 32, 2) := by decide +kernel
theorem dL_law_495 : decode mL_law.2.1 495 = .ok (.lshl, 1) := by decide +kernel
theorem dL_law_496 : decode mL_law.2.1 496 = .ok (.aload_n 0, 1) := by decide +kernel
theorem dL_law_497 : decode mL_law.2.1 497 = .ok (.iload_n 3, 1) := by decide +kernel
theorem dL_law_498 : decode mL_law.2.1 498 = .ok (.iconst 2, 1) := by decide +kernel
theorem dL_law_499 : decode mL_law.2.1 499 = .ok (.iadd, 1) := by decide +kernel
theorem dL_law_500 : decode mL_law.2.1 500 = .ok (.iaload, 1) := by decide +kernel
theorem dL_law_501 : decode mL_law.2.1 501 = .ok (.i2l, 1) := by decide +kernel
theorem dL_law_502 : decode mL_law.2.1 502 = .ok (.ldc2_w 23, 3) := by decide +kernel
theorem dL_law_505 : decode mL_law.2.1 505 = .ok (.land, 1) := by decide +kernel
theorem dL_law_506 : decode mL_law.2.1 506 = .ok (.lor, 1) := by decide +kernel
theorem dL_law_507 : decode mL_law.2.1 507 = .ok (.aload_n 0, 1) := by decide +kernel
theorem dL_law_508 : decode mL_law.2.1 508 = .ok (.iload_n 3, 1) := by decide +kernel
theorem dL_law_509 : decode mL_law.2.1 509 = .ok (.iconst 3, 1) := by decide +kernel
theorem dL_law_510 : decode mL_law.2.1 510 = .ok (.iadd, 1) := by decide +kernel
theorem dL_law_511 : decode mL_law.2.1 511 = .ok (.iaload, 1) := by decide +kernel
theorem dL_law_512 : decode mL_law.2.1 512 = .ok (.invokevirtual 50, 3) := by decide +kernel
theorem dL_law_515 : decode mL_law.2.1 515 = .ok (.aload_n 2, 1) := by decide +kernel
theorem dL_law_516 : decode mL_law.2.1 516 = .ok (.aload_n 0, 1) := by decide +kernel
theorem dL_law_517 : decode mL_law.2.1 517 = .ok (.iload_n 3, 1) := by decide +kernel
theorem dL_law_518 : decode mL_law.2.1 518 = .ok (.iconst 1, 1) := by decide +kernel
theorem dL_law_519 : decode mL_law.2.1 519 = .ok (.iadd, 1) := by decide +kernel
theorem dL_law_520 : decode mL_law.2.1 520 = .ok (.iaload, 1) := by decide +kernel
theorem dL_law_521 : decode mL_law.2.1 521 = .ok (.i2l, 1) := by decide +kernel
theorem dL_law_522 : decode mL_law.2.1 522 = .ok (.bipush 32, 2) := by decide +kernel
theorem dL_law_524 : decode mL_law.2.1 524 = .ok (.lshl, 1) := by decide +kernel
theorem dL_law_525 : decode mL_law.2.1 525 = .ok (.aload_n 0, 1) := by decide +kernel
theorem dL_law_526 : decode mL_law.2.1 526 = .ok (.iload_n 3, 1) := by decide +kernel
theorem dL_law_527 : decode mL_law.2.1 527 = .ok (.iconst 2, 1) := by decide +kernel
theorem dL_law_528 : decode mL_law.2.1 528 = .ok (.iadd, 1) := by decide +kernel
theorem dL_law_529 : decode mL_law.2.1 529 = .ok (.iaload, 1) := by decide +kernel
theorem dL_law_530 : decode mL_law.2.1 530 = .ok (.i2l, 1) := by decide +kernel
theorem dL_law_531 : decode mL_law.2.1 531 = .ok (.ldc2_w 23, 3) := by decide +kernel
theorem dL_law_534 : decode mL_law.2.1 534 = .ok (.land, 1) := by decide +kernel
theorem dL_law_535 : decode mL_law.2.1 535 = .ok (.lor, 1) := by decide +kernel
theorem dL_law_536 : decode mL_law.2.1 536 = .ok (.aload_n 0, 1) := by decide +kernel
theorem dL_law_537 : decode mL_law.2.1 537 = .ok (.iload_n 3, 1) := by decide +kernel
theorem dL_law_538 : decode mL_law.2.1 538 = .ok (.iconst 3, 1) := by decide +kernel
theorem dL_law_539 : decode mL_law.2.1 539 = .ok (.iadd, 1) := by decide +kernel
theorem dL_law_540 : decode mL_law.2.1 540 = .ok (.iaload, 1) := by decide +kernel
theorem dL_law_541 : decode mL_law.2.1 541 = .ok (.invokevirtual 54, 3) := by decide +kernel
theorem dL_law_544 : decode mL_law.2.1 544 = .ok (.if_icmp .eq 835, 3) := by decide +kernel
theorem dL_law_547 : decode mL_law.2.1 547 = .ok (.iconst 0, 1) := by decide +kernel
theorem dL_law_548 : decode mL_law.2.1 548 = .ok (.ireturn, 1) := by decide +kernel
theorem dL_law_549 : decode mL_law.2.1 549 = .ok (.aload_n 1, 1) := by decide +kernel
theorem dL_law_550 : decode mL_law.2.1 550 = .ok (.aload_n 0, 1) := by decide +kernel
theorem dL_law_551 : decode mL_law.2.1 551 = .ok (.iload_n 3, 1) := by decide +kernel
theorem dL_law_552 : decode mL_law.2.1 552 = .ok (.iconst 1, 1) := by decide +kernel
theorem dL_law_553 : decode mL_law.2.1 553 = .ok (.iadd, 1) := by decide +kernel
theorem dL_law_554 : decode mL_law.2.1 554 = .ok (.iaload, 1) := by decide +kernel
theorem dL_law_555 : decode mL_law.2.1 555 = .ok (.invokevirtual 55, 3) := by decide +kernel
theorem dL_law_558 : decode mL_law.2.1 558 = .ok (.aload_n 2, 1) := by decide +kernel
theorem dL_law_559 : decode mL_law.2.1 559 = .ok (.aload_n 0, 1) := by decide +kernel
theorem dL_law_560 : decode mL_law.2.1 560 = .ok (.iload_n 3, 1) := by decide +kernel
theorem dL_law_561 : decode mL_law.2.1 561 = .ok (.iconst 1, 1) := by decide +kernel
theorem dL_law_562 : decode mL_law.2.1 562 = .ok (.iadd, 1) := by decide +kernel
theorem dL_law_563 : decode mL_law.2.1 563 = .ok (.iaload, 1) := by decide +kernel
theorem dL_law_564 : decode mL_law.2.1 564 = .ok (.invokevirtual 59, 3) := by decide +kernel
theorem dL_law_567 : decode mL_law.2.1 567 = .ok (.if_icmp .eq 812, 3) := by decide +kernel
theorem dL_law_570 : decode mL_law.2.1 570 = .ok (.iconst 0, 1) := by decide +kernel
theorem dL_law_571 : decode mL_law.2.1 571 = .ok (.ireturn, 1) := by decide +kernel
theorem dL_law_572 : decode mL_law.2.1 572 = .ok (.aload_n 1, 1) := by decide +kernel
theorem dL_law_573 : decode mL_law.2.1 573 = .ok (.aload_n 0, 1) := by decide +kernel
theorem dL_law_574 : decode mL_law.2.1 574 = .ok (.iload_n 3, 1) := by decide +kernel
theorem dL_law_575 : decode mL_law.2.1 575 = .ok (.iconst 1, 1) := by decide +kernel
theorem dL_law_576 : decode mL_law.2.1 576 = .ok (.iadd, 1) := by decide +kernel
theorem dL_law_577 : decode mL_law.2.1 577 = .ok (.iaload, 1) := by decide +kernel
theorem dL_law_578 : decode mL_law.2.1 578 = .ok (.aload_n 0, 1) := by decide +kernel
theorem dL_law_579 : decode mL_law.2.1 579 = .ok (.iload_n 3, 1) := by decide +kernel
theorem dL_law_580 : decode mL_law.2.1 580 = .ok (.iconst 2, 1) := by decide +kernel
theorem dL_law_581 : decode mL_law.2.1 581 = .ok (.iadd, 1) := by decide +kernel
theorem dL_law_582 : decode mL_law.2.1 582 = .ok (.iaload, 1) := by decide +kernel
theorem dL_law_583 : decode mL_law.2.1 583 = .ok (.aload_n 0, 1) := by decide +kernel
theorem dL_law_584 : decode mL_law.2.1 584 = .ok (.iload_n 3, 1) := by decide +kernel
theorem dL_law_585 : decode mL_law.2.1 585 = .ok (.iconst 3, 1) := by decide +kernel
theorem dL_law_586 : decode mL_law.2.1 586 = .ok (.iadd, 1) := by decide +kernel
theorem dL_law_587 : decode mL_law.2.1 587 = .ok (.iaload, 1) := by decide +kernel
theorem dL_law_588 : decode mL_law.2.1 588 = .ok (.aload_n 0, 1) := by decide +kernel
theorem dL_law_589 : decode mL_law.2.1 589 = .ok (.iload_n 3, 1) := by decide +kernel
theorem dL_law_590 : decode mL_law.2.1 590 = .ok (.iconst 4, 1) := by decide +kernel
theorem dL_law_591 : decode mL_law.2.1 591 = .ok (.iadd, 1) := by decide +kernel
theorem dL_law_592 : decode mL_law.2.1 592 = .ok (.iaload, 1) := by decide +kernel
theorem dL_law_593 : decode mL_law.2.1 593 = .ok (.aload_n 0, 1) := by decide +kernel
theorem dL_law_594 : decode mL_law.2.1 594 = .ok (.iload_n 3, 1) := by decide +kernel
theorem dL_law_595 : decode mL_law.2.1 595 = .ok (.iconst 5, 1) := by decide +kernel
theorem dL_law_596 : decode mL_law.2.1 596 = .ok (.iadd, 1) := by decide +kernel
theorem dL_law_597 : decode mL_law.2.1 597 = .ok (.iaload, 1) := by decide +kernel
theorem dL_law_598 : decode mL_law.2.1 598 = .ok (.invokevirtual 60, 3) := by decide +kernel
theorem dL_law_601 : decode mL_law.2.1 601 = .ok (.aload_n 2, 1) := by decide +kernel
theorem dL_law_602 : decode mL_law.2.1 602 = .ok (.aload_n 0, 1) := by decide +kernel
theorem dL_law_603 : decode mL_law.2.1 603 = .ok (.iload_n 3, 1) := by decide +kernel
theorem dL_law_604 : decode mL_law.2.1 604 = .ok (.iconst 1, 1) := by decide +kernel
theorem dL_law_605 : decode mL_law.2.1 605 = .ok (.iadd, 1) := by decide +kernel
theorem dL_law_606 : decode mL_law.2.1 606 = .ok (.iaload, 1) := by decide +kernel
theorem dL_law_607 : decode mL_law.2.1 607 = .ok (.aload_n 0, 1) := by decide +kernel
theorem dL_law_608 : decode mL_law.2.1 608 = .ok (.iload_n 3, 1) := by decide +kernel
theorem dL_law_609 : decode mL_law.2.1 609 = .ok (.iconst 2, 1) := by decide +kernel
theorem dL_law_610 : decode mL_law.2.1 610 = .ok (.iadd, 1) := by decide +kernel
theorem dL_law_611 : decode mL_law.2.1 611 = .ok (.iaload, 1) := by decide +kernel
theorem dL_law_612 : decode mL_law.2.1 612 = .ok (.aload_n 0, 1) := by decide +kernel
theorem dL_law_613 : decode mL_law.2.1 613 = .ok (.iload_n 3, 1) := by decide +kernel
theorem dL_law_614 : decode mL_law.2.1 614 = .ok (.iconst 3, 1) := by decide +kernel
theorem dL_law_615 : decode mL_law.2.1 615 = .ok (.iadd, 1) := by decide +kernel
theorem dL_law_616 : decode mL_law.2.1 616 = .ok (.iaload, 1) := by decide +kernel
theorem dL_law_617 : decode mL_law.2.1 617 = .ok (.aload_n 0, 1) := by decide +kernel
theorem dL_law_618 : decode mL_law.2.1 618 = .ok (.iload_n 3, 1) := by decide +kernel
theorem dL_law_619 : decode mL_law.2.1 619 = .ok (.iconst 4, 1) := by decide +kernel
theorem dL_law_620 : decode mL_law.2.1 620 = .ok (.iadd, 1) := by decide +kernel
theorem dL_law_621 : decode mL_law.2.1 621 = .ok (.iaload, 1) := by decide +kernel
theorem dL_law_622 : decode mL_law.2.1 622 = .ok (.aload_n 0, 1) := by decide +kernel
theorem dL_law_623 : decode mL_law.2.1 623 = .ok (.iload_n 3, 1) := by decide +kernel
theorem dL_law_624 : decode mL_law.2.1 624 = .ok (.iconst 5, 1) := by decide +kernel
theorem dL_law_625 : decode mL_law.2.1 625 = .ok (.iadd, 1) := by decide +kernel
theorem dL_law_626 : decode mL_law.2.1 626 = .ok (.iaload, 1) := by decide +kernel
theorem dL_law_627 : decode mL_law.2.1 627 = .ok (.invokevirtual 64, 3) := by decide +kernel
theorem dL_law_630 : decode mL_law.2.1 630 = .ok (.if_icmp .eq 749, 3) := by decide +kernel
theorem dL_law_633 : decode mL_law.2.1 633 = .ok (.iconst 0, 1) := by decide +kernel
theorem dL_law_634 : decode mL_law.2.1 634 = .ok (.ireturn, 1) := by decide +kernel
theorem dL_law_635 : decode mL_law.2.1 635 = .ok (.aload_n 1, 1) := by decide +kernel
theorem dL_law_636 : decode mL_law.2.1 636 = .ok (.aload_n 0, 1) := by decide +kernel
theorem dL_law_637 : decode mL_law.2.1 637 = .ok (.iload_n 3, 1) := by decide +kernel
theorem dL_law_638 : decode mL_law.2.1 638 = .ok (.iconst 1, 1) := by decide +kernel
theorem dL_law_639 : decode mL_law.2.1 639 = .ok (.iadd, 1) := by decide +kernel
theorem dL_law_640 : decode mL_law.2.1 640 = .ok (.iaload, 1) := by decide +kernel
theorem dL_law_641 : decode mL_law.2.1 641 = .ok (.invokevirtual 65, 3) := by decide +kernel
theorem dL_law_644 : decode mL_law.2.1 644 = .ok (.aload_n 2, 1) := by decide +kernel
theorem dL_law_645 : decode mL_law.2.1 645 = .ok (.aload_n 0, 1) := by decide +kernel
theorem dL_law_646 : decode mL_law.2.1 646 = .ok (.iload_n 3, 1) := by decide +kernel
theorem dL_law_647 : decode mL_law.2.1 647 = .ok (.iconst 1, 1) := by decide +kernel
theorem dL_law_648 : decode mL_law.2.1 648 = .ok (.iadd, 1) := by decide +kernel
theorem dL_law_649 : decode mL_law.2.1 649 = .ok (.iaload, 1) := by decide +kernel
theorem dL_law_650 : decode mL_law.2.1 650 = .ok (.invokevirtual 69, 3) := by decide +kernel
theorem dL_law_653 : decode mL_law.2.1 653 = .ok (.if_icmp .eq 726, 3) := by decide +kernel
theorem dL_law_656 : decode mL_law.2.1 656 = .ok (.iconst 0, 1) := by decide +kernel
theorem dL_law_657 : decode mL_law.2.1 657 = .ok (.ireturn, 1) := by decide +kernel
theorem dL_law_658 : decode mL_law.2.1 658 = .ok (.aload_n 1, 1) := by decide +kernel
theorem dL_law_659 : decode mL_law.2.1 659 = .ok (.aload_n 0, 1) := by decide +kernel
theorem dL_law_660 : decode mL_law.2.1 660 = .ok (.iload_n 3, 1) := by decide +kernel
theorem dL_law_661 : decode mL_law.2.1 661 = .ok (.iconst 1, 1) := by decide +kernel
theorem dL_law_662 : decode mL_law.2.1 662 = .ok (.iadd, 1) := by decide +kernel
theorem dL_law_663 : decode mL_law.2.1 663 = .ok (.iaload, 1) := by decide +kernel
theorem dL_law_664 : decode mL_law.2.1 664 = .ok (.invokevirtual 70, 3) := by decide +kernel
theorem dL_law_667 : decode mL_law.2.1 667 = .ok (.aload_n 2, 1) := by decide +kernel
theorem dL_law_668 : decode mL_law.2.1 668 = .ok (.aload_n 0, 1) := by decide +kernel
theorem dL_law_669 : decode mL_law.2.1 669 = .ok (.iload_n 3, 1) := by decide +kernel
theorem dL_law_670 : decode mL_law.2.1 670 = .ok (.iconst 1, 1) := by decide +kernel
theorem dL_law_671 : decode mL_law.2.1 671 = .ok (.iadd, 1) := by decide +kernel
theorem dL_law_672 : decode mL_law.2.1 672 = .ok (.iaload, 1) := by decide +kernel
theorem dL_law_673 : decode mL_law.2.1 673 = .ok (.invokevirtual 73, 3) := by decide +kernel
theorem dL_law_676 : decode mL_law.2.1 676 = .ok (.if_icmp .eq 703, 3) := by decide +kernel
theorem dL_law_679 : decode mL_law.2.1 679 = .ok (.iconst 0, 1) := by decide +kernel
theorem dL_law_680 : decode mL_law.2.1 680 = .ok (.ireturn, 1) := by decide +kernel
theorem dL_law_681 : decode mL_law.2.1 681 = .ok (.aload_n 1, 1) := by decide +kernel
theorem dL_law_682 : decode mL_law.2.1 682 = .ok (.invokevirtual 74, 3) := by decide +kernel
theorem dL_law_685 : decode mL_law.2.1 685 = .ok (.aload_n 2, 1) := by decide +kernel
theorem dL_law_686 : decode mL_law.2.1 686 = .ok (.invokevirtual 77, 3) := by decide +kernel
theorem dL_law_689 : decode mL_law.2.1 689 = .ok (.if_icmp .eq 690, 3) := by decide +kernel
theorem dL_law_692 : decode mL_law.2.1 692 = .ok (.iconst 0, 1) := by decide +kernel
theorem dL_law_693 : decode mL_law.2.1 693 = .ok (.ireturn, 1) := by decide +kernel
theorem dL_law_694 : decode mL_law.2.1 694 = .ok (.aload_n 1, 1) := by decide +kernel
theorem dL_law_695 : decode mL_law.2.1 695 = .ok (.aload_n 0, 1) := by decide +kernel
theorem dL_law_696 : decode mL_law.2.1 696 = .ok (.iload_n 3, 1) := by decide +kernel
theorem dL_law_697 : decode mL_law.2.1 697 = .ok (.iconst 1, 1) := by decide +kernel
theorem dL_law_698 : decode mL_law.2.1 698 = .ok (.iadd, 1) := by decide +kernel
theorem dL_law_699 : decode mL_law.2.1 699 = .ok (.iaload, 1) := by decide +kernel
theorem dL_law_700 : decode mL_law.2.1 700 = .ok (.invokevirtual 78, 3) := by decide +kernel
theorem dL_law_703 : decode mL_law.2.1 703 = .ok (.aload_n 2, 1) := by decide +kernel
theorem dL_law_704 : decode mL_law.2.1 704 = .ok (.aload_n 0, 1) := by decide +kernel
theorem dL_law_705 : decode mL_law.2.1 705 = .ok (.iload_n 3, 1) := by decide +kernel
theorem dL_law_706 : decode mL_law.2.1 706 = .ok (.iconst 1, 1) := by decide +kernel
theorem dL_law_707 : decode mL_law.2.1 707 = .ok (.iadd, 1) := by decide +kernel
theorem dL_law_708 : decode mL_law.2.1 708 = .ok (.iaload, 1) := by decide +kernel
theorem dL_law_709 : decode mL_law.2.1 709 = .ok (.invokevirtual 81, 3) := by decide +kernel
theorem dL_law_712 : decode mL_law.2.1 712 = .ok (.if_icmp .eq 667, 3) := by decide +kernel
theorem dL_law_715 : decode mL_law.2.1 715 = .ok (.iconst 0, 1) := by decide +kernel
theorem dL_law_716 : decode mL_law.2.1 716 = .ok (.ireturn, 1) := by decide +kernel
theorem dL_law_717 : decode mL_law.2.1 717 = .ok (.aload_n 1, 1) := by decide +kernel
theorem dL_law_718 : decode mL_law.2.1 718 = .ok (.aload_n 0, 1) := by decide +kernel
theorem dL_law_719 : decode mL_law.2.1 719 = .ok (.iload_n 3, 1) := by decide +kernel
theorem dL_law_720 : decode mL_law.2.1 720 = .ok (.iconst 1, 1) := by decide +kernel
theorem dL_law_721 : decode mL_law.2.1 721 = .ok (.iadd, 1) := by decide +kernel
theorem dL_law_722 : decode mL_law.2.1 722 = .ok (.iaload, 1) := by decide +kernel
theorem dL_law_723 : decode mL_law.2.1 723 = .ok (.aload_n 0, 1) := by decide +kernel
theorem dL_law_724 : decode mL_law.2.1 724 = .ok (.iload_n 3, 1) := by decide +kernel
theorem dL_law_725 : decode mL_law.2.1 725 = .ok (.iconst 2, 1) := by decide +kernel
theorem dL_law_726 : decode mL_law.2.1 726 = .ok (.iadd, 1) := by decide +kernel
theorem dL_law_727 : decode mL_law.2.1 727 = .ok (.iaload, 1) := by decide +kernel
theorem dL_law_728 : decode mL_law.2.1 728 = .ok (.aload_n 0, 1) := by decide +kernel
theorem dL_law_729 : decode mL_law.2.1 729 = .ok (.iload_n 3, 1) := by decide +kernel
theorem dL_law_730 : decode mL_law.2.1 730 = .ok (.iconst 3, 1) := by decide +kernel
theorem dL_law_731 : decode mL_law.2.1 731 = .ok (.iadd, 1) := by decide +kernel
theorem dL_law_732 : decode mL_law.2.1 732 = .ok (.iaload, 1) := by decide +kernel
theorem dL_law_733 : decode mL_law.2.1 733 = .ok (.invokevirtual 82, 3) := by decide +kernel
theorem dL_law_736 : decode mL_law.2.1 736 = .ok (.aload_n 2, 1) := by decide +kernel
theorem dL_law_737 : decode mL_law.2.1 737 = .ok (.aload_n 0, 1) := by decide +kernel
theorem dL_law_738 : decode mL_law.2.1 738 = .ok (.iload_n 3, 1) := by decide +kernel
theorem dL_law_739 : decode mL_law.2.1 739 = .ok (.iconst 1, 1) := by decide +kernel
theorem dL_law_740 : decode mL_law.2.1 740 = .ok (.iadd, 1) := by decide +kernel
theorem dL_law_741 : decode mL_law.2.1 741 = .ok (.iaload, 1) := by decide +kernel
theorem dL_law_742 : decode mL_law.2.1 742 = .ok (.aload_n 0, 1) := by decide +kernel
theorem dL_law_743 : decode mL_law.2.1 743 = .ok (.iload_n 3, 1) := by decide +kernel
theorem dL_law_744 : decode mL_law.2.1 744 = .ok (.iconst 2, 1) := by decide +kernel
theorem dL_law_745 : decode mL_law.2.1 745 = .ok (.iadd, 1) := by decide +kernel
theorem dL_law_746 : decode mL_law.2.1 746 = .ok (.iaload, 1) := by decide +kernel
theorem dL_law_747 : decode mL_law.2.1 747 = .ok (.aload_n 0, 1) := by decide +kernel
theorem dL_law_748 : decode mL_law.2.1 748 = .ok (.iload_n 3, 1) := by decide +kernel
theorem dL_law_749 : decode mL_law.2.1 749 = .ok (.iconst 3, 1) := by decide +kernel
theorem dL_law_750 : decode mL_law.2.1 750 = .ok (.iadd, 1) := by decide +kernel
theorem dL_law_751 : decode mL_law.2.1 751 = .ok (.iaload, 1) := by decide +kernel
theorem dL_law_752 : decode mL_law.2.1 752 = .ok (.invokevirtual 85, 3) := by decide +kernel
theorem dL_law_755 : decode mL_law.2.1 755 = .ok (.if_icmp .eq 624, 3) := by decide +kernel
theorem dL_law_758 : decode mL_law.2.1 758 = .ok (.iconst 0, 1) := by decide +kernel
theorem dL_law_759 : decode mL_law.2.1 759 = .ok (.ireturn, 1) := by decide +kernel
theorem dL_law_760 : decode mL_law.2.1 760 = .ok (.aload_n 1, 1) := by decide +kernel
theorem dL_law_761 : decode mL_law.2.1 761 = .ok (.aload_n 0, 1) := by decide +kernel
theorem dL_law_762 : decode mL_law.2.1 762 = .ok (.iload_n 3, 1) := by decide +kernel
theorem dL_law_763 : decode mL_law.2.1 763 = .ok (.iconst 1, 1) := by decide +kernel
theorem dL_law_764 : decode mL_law.2.1 764 = .ok (.iadd, 1) := by decide +kernel
theorem dL_law_765 : decode mL_law.2.1 765 = .ok (.iaload, 1) := by decide +kernel
theorem dL_law_766 : decode mL_law.2.1 766 = .ok (.invokevirtual 86, 3) := by decide +kernel
theorem dL_law_769 : decode mL_law.2.1 769 = .ok (.aload_n 2, 1) := by decide +kernel
theorem dL_law_770 : decode mL_law.2.1 770 = .ok (.aload_n 0, 1) := by decide +kernel
theorem dL_law_771 : decode mL_law.2.1 771 = .ok (.iload_n 3, 1) := by decide +kernel
theorem dL_law_772 : decode mL_law.2.1 772 = .ok (.iconst 1, 1) := by decide +kernel
theorem dL_law_773 : decode mL_law.2.1 773 = .ok (.iadd, 1) := by decide +kernel
theorem dL_law_774 : decode mL_law.2.1 774 = .ok (.iaload, 1) := by decide +kernel
theorem dL_law_775 : decode mL_law.2.1 775 = .ok (.invokevirtual 89, 3) := by decide +kernel
theorem dL_law_778 : decode mL_law.2.1 778 = .ok (.if_icmp .eq 601, 3) := by decide +kernel
theorem dL_law_781 : decode mL_law.2.1 781 = .ok (.iconst 0, 1) := by decide +kernel
theorem dL_law_782 : decode mL_law.2.1 782 = .ok (.ireturn, 1) := by decide +kernel
theorem dL_law_783 : decode mL_law.2.1 783 = .ok (.aload_n 1, 1) := by decide +kernel
theorem dL_law_784 : decode mL_law.2.1 784 = .ok (.aload_n 0, 1) := by decide +kernel
theorem dL_law_785 : decode mL_law.2.1 785 = .ok (.iload_n 3, 1) := by decide +kernel
theorem dL_law_786 : decode mL_law.2.1 786 = .ok (.iconst 1, 1) := by decide +kernel
theorem dL_law_787 : decode mL_law.2.1 787 = .ok (.iadd, 1) := by decide +kernel
theorem dL_law_788 : decode mL_law.2.1 788 = .ok (.iaload, 1) := by decide +kernel
theorem dL_law_789 : decode mL_law.2.1 789 = .ok (.aload_n 0, 1) := by decide +kernel
theorem dL_law_790 : decode mL_law.2.1 790 = .ok (.iload_n 3, 1) := by decide +kernel
theorem dL_law_791 : decode mL_law.2.1 791 = .ok (.iconst 2, 1) := by decide +kernel
theorem dL_law_792 : decode mL_law.2.1 792 = .ok (.iadd, 1) := by decide +kernel
theorem dL_law_793 : decode mL_law.2.1 793 = .ok (.iaload, 1) := by decide +kernel
theorem dL_law_794 : decode mL_law.2.1 794 = .ok (.invokevirtual 90, 3) := by decide +kernel
theorem dL_law_797 : decode mL_law.2.1 797 = .ok (.aload_n 2, 1) := by decide +kernel
theorem dL_law_798 : decode mL_law.2.1 798 = .ok (.aload_n 0, 1) := by decide +kernel
theorem dL_law_799 : decode mL_law.2.1 799 = .ok (.iload_n 3, 1) := by decide +kernel
theorem dL_law_800 : decode mL_law.2.1 800 = .ok (.iconst 1, 1) := by decide +kernel
theorem dL_law_801 : decode mL_law.2.1 801 = .ok (.iadd, 1) := by decide +kernel
theorem dL_law_802 : decode mL_law.2.1 802 = .ok (.iaload, 1) := by decide +kernel
theorem dL_law_803 : decode mL_law.2.1 803 = .ok (.aload_n 0, 1) := by decide +kernel
theorem dL_law_804 : decode mL_law.2.1 804 = .ok (.iload_n 3, 1) := by decide +kernel
theorem dL_law_805 : decode mL_law.2.1 805 = .ok (.iconst 2, 1) := by decide +kernel
theorem dL_law_806 : decode mL_law.2.1 806 = .ok (.iadd, 1) := by decide +kernel
theorem dL_law_807 : decode mL_law.2.1 807 = .ok (.iaload, 1) := by decide +kernel
theorem dL_law_808 : decode mL_law.2.1 808 = .ok (.invokevirtual 94, 3) := by decide +kernel
theorem dL_law_811 : decode mL_law.2.1 811 = .ok (.if_icmp .eq 568, 3) := by decide +kernel
theorem dL_law_814 : decode mL_law.2.1 814 = .ok (.iconst 0, 1) := by decide +kernel
theorem dL_law_815 : decode mL_law.2.1 815 = .ok (.ireturn, 1) := by decide +kernel
theorem dL_law_816 : decode mL_law.2.1 816 = .ok (.aload_n 1, 1) := by decide +kernel
theorem dL_law_817 : decode mL_law.2.1 817 = .ok (.aload_n 0, 1) := by decide +kernel
theorem dL_law_818 : decode mL_law.2.1 818 = .ok (.iload_n 3, 1) := by decide +kernel
theorem dL_law_819 : decode mL_law.2.1 819 = .ok (.iconst 1, 1) := by decide +kernel
theorem dL_law_820 : decode mL_law.2.1 820 = .ok (.iadd, 1) := by decide +kernel
theorem dL_law_821 : decode mL_law.2.1 821 = .ok (.iaload, 1) := by decide +kernel
theorem dL_law_822 : decode mL_law.2.1 822 = .ok (.aload_n 0, 1) := by decide +kernel
theorem dL_law_823 : decode mL_law.2.1 823 = .ok (.iload_n 3, 1) := by decide +kernel
theorem dL_law_824 : decode mL_law.2.1 824 = .ok (.iconst 2, 1) := by decide +kernel
theorem dL_law_825 : decode mL_law.2.1 825 = .ok (.iadd, 1) := by decide +kernel
theorem dL_law_826 : decode mL_law.2.1 826 = .ok (.iaload, 1) := by decide +kernel
theorem dL_law_827 : decode mL_law.2.1 827 = .ok (.invokevirtual 95, 3) := by decide +kernel
theorem dL_law_830 : decode mL_law.2.1 830 = .ok (.aload_n 2, 1) := by decide +kernel
theorem dL_law_831 : decode mL_law.2.1 831 = .ok (.aload_n 0, 1) := by decide +kernel
theorem dL_law_832 : decode mL_law.2.1 832 = .ok (.iload_n 3, 1) := by decide +kernel
theorem dL_law_833 : decode mL_law.2.1 833 = .ok (.iconst 1, 1) := by decide +kernel
theorem dL_law_834 : decode mL_law.2.1 834 = .ok (.iadd, 1) := by decide +kernel
theorem dL_law_835 : decode mL_law.2.1 835 = .ok (.iaload, 1) := by decide +kernel
theorem dL_law_836 : decode mL_law.2.1 836 = .ok (.aload_n 0, 1) := by decide +kernel
theorem dL_law_837 : decode mL_law.2.1 837 = .ok (.iload_n 3, 1) := by decide +kernel
theorem dL_law_838 : decode mL_law.2.1 838 = .ok (.iconst 2, 1) := by decide +kernel
theorem dL_law_839 : decode mL_law.2.1 839 = .ok (.iadd, 1) := by decide +kernel
theorem dL_law_840 : decode mL_law.2.1 840 = .ok (.iaload, 1) := by decide +kernel
theorem dL_law_841 : decode mL_law.2.1 841 = .ok (.invokevirtual 98, 3) := by decide +kernel
theorem dL_law_844 : decode mL_law.2.1 844 = .ok (.if_icmp .eq 535, 3) := by decide +kernel
theorem dL_law_847 : decode mL_law.2.1 847 = .ok (.iconst 0, 1) := by decide +kernel
theorem dL_law_848 : decode mL_law.2.1 848 = .ok (.ireturn, 1) := by decide +kernel
theorem dL_law_849 : decode mL_law.2.1 849 = .ok (.aload_n 1, 1) := by decide +kernel
theorem dL_law_850 : decode mL_law.2.1 850 = .ok (.aload_n 0, 1) := by decide +kernel
theorem dL_law_851 : decode mL_law.2.1 851 = .ok (.iload_n 3, 1) := by decide +kernel
theorem dL_law_852 : decode mL_law.2.1 852 = .ok (.iconst 1, 1) := by decide +kernel
theorem dL_law_853 : decode mL_law.2.1 853 = .ok (.iadd, 1) := by decide +kernel
theorem dL_law_854 : decode mL_law.2.1 854 = .ok (.iaload, 1) := by decide +kernel
theorem dL_law_855 : decode mL_law.2.1 855 = .ok (.aload_n 0, 1) := by decide +kernel
theorem dL_law_856 : decode mL_law.2.1 856 = .ok (.iload_n 3, 1) := by decide +kernel
theorem dL_law_857 : decode mL_law.2.1 857 = .ok (.iconst 2, 1) := by decide +kernel
theorem dL_law_858 : decode mL_law.2.1 858 = .ok (.iadd, 1) := by decide +kernel
theorem dL_law_859 : decode mL_law.2.1 859 = .ok (.iaload, 1) := by decide +kernel
theorem dL_law_860 : decode mL_law.2.1 860 = .ok (.invokevirtual 99, 3) := by decide +kernel
theorem dL_law_863 : decode mL_law.2.1 863 = .ok (.aload_n 2, 1) := by decide +kernel
theorem dL_law_864 : decode mL_law.2.1 864 = .ok (.aload_n 0, 1) := by decide +kernel
theorem dL_law_865 : decode mL_law.2.1 865 = .ok (.iload_n 3, 1) := by decide +kernel
theorem dL_law_866 : decode mL_law.2.1 866 = .ok (.iconst 1, 1) := by decide +kernel
theorem dL_law_867 : decode mL_law.2.1 867 = .ok (.iadd, 1) := by decide +kernel
theorem dL_law_868 : decode mL_law.2.1 868 = .ok (.iaload, 1) := by decide +kernel
theorem dL_law_869 : decode mL_law.2.1 869 = .ok (.aload_n 0, 1) := by decide +kernel
theorem dL_law_870 : decode mL_law.2.1 870 = .ok (.iload_n 3, 1) := by decide +kernel
theorem dL_law_871 : decode mL_law.2.1 871 = .ok (.iconst 2, 1) := by decide +kernel
theorem dL_law_872 : decode mL_law.2.1 872 = .ok (.iadd, 1) := by decide +kernel
theorem dL_law_873 : decode mL_law.2.1 873 = .ok (.iaload, 1) := by decide +kernel
theorem dL_law_874 : decode mL_law.2.1 874 = .ok (.invokevirtual 102, 3) := by decide +kernel
theorem dL_law_877 : decode mL_law.2.1 877 = .ok (.if_icmp .eq 502, 3) := by decide +kernel
theorem dL_law_880 : decode mL_law.2.1 880 = .ok (.iconst 0, 1) := by decide +kernel
theorem dL_law_881 : decode mL_law.2.1 881 = .ok (.ireturn, 1) := by decide +kernel
theorem dL_law_882 : decode mL_law.2.1 882 = .ok (.aload_n 1, 1) := by decide +kernel
theorem dL_law_883 : decode mL_law.2.1 883 = .ok (.aload_n 0, 1) := by decide +kernel
theorem dL_law_884 : decode mL_law.2.1 884 = .ok (.iload_n 3, 1) := by decide +kernel
theorem dL_law_885 : decode mL_law.2.1 885 = .ok (.iconst 1, 1) := by decide +kernel
theorem dL_law_886 : decode mL_law.2.1 886 = .ok (.iadd, 1) := by decide +kernel
theorem dL_law_887 : decode mL_law.2.1 887 = .ok (.iaload, 1) := by decide +kernel
theorem dL_law_888 : decode mL_law.2.1 888 = .ok (.aload_n 0, 1) := by decide +kernel
theorem dL_law_889 : decode mL_law.2.1 889 = .ok (.iload_n 3, 1) := by decide +kernel
theorem dL_law_890 : decode mL_law.2.1 890 = .ok (.iconst 2, 1) := by decide +kernel
theorem dL_law_891 : decode mL_law.2.1 891 = .ok (.iadd, 1) := by decide +kernel
theorem dL_law_892 : decode mL_law.2.1 892 = .ok (.iaload, 1) := by decide +kernel
theorem dL_law_893 : decode mL_law.2.1 893 = .ok (.aload_n 0, 1) := by decide +kernel
theorem dL_law_894 : decode mL_law.2.1 894 = .ok (.iload_n 3, 1) := by decide +kernel
theorem dL_law_895 : decode mL_law.2.1 895 = .ok (.iconst 3, 1) := by decide +kernel
theorem dL_law_896 : decode mL_law.2.1 896 = .ok (.iadd, 1) := by decide +kernel
theorem dL_law_897 : decode mL_law.2.1 897 = .ok (.iaload, 1) := by decide +kernel
theorem dL_law_898 : decode mL_law.2.1 898 = .ok (.invokevirtual 103, 3) := by decide +kernel
theorem dL_law_901 : decode mL_law.2.1 901 = .ok (.aload_n 2, 1) := by decide +kernel
theorem dL_law_902 : decode mL_law.2.1 902 = .ok (.aload_n 0, 1) := by decide +kernel
theorem dL_law_903 : decode mL_law.2.1 903 = .ok (.iload_n 3, 1) := by decide +kernel
theorem dL_law_904 : decode mL_law.2.1 904 = .ok (.iconst 1, 1) := by decide +kernel
theorem dL_law_905 : decode mL_law.2.1 905 = .ok (.iadd, 1) := by decide +kernel
theorem dL_law_906 : decode mL_law.2.1 906 = .ok (.iaload, 1) := by decide +kernel
theorem dL_law_907 : decode mL_law.2.1 907 = .ok (.aload_n 0, 1) := by decide +kernel
theorem dL_law_908 : decode mL_law.2.1 908 = .ok (.iload_n 3, 1) := by decide +kernel
theorem dL_law_909 : decode mL_law.2.1 909 = .ok (.iconst 2, 1) := by decide +kernel
theorem dL_law_910 : decode mL_law.2.1 910 = .ok (.iadd, 1) := by decide +kernel
theorem dL_law_911 : decode mL_law.2.1 911 = .ok (.iaload, 1) := by decide +kernel
theorem dL_law_912 : decode mL_law.2.1 912 = .ok (.aload_n 0, 1) := by decide +kernel
theorem dL_law_913 : decode mL_law.2.1 913 = .ok (.iload_n 3, 1) := by decide +kernel
theorem dL_law_914 : decode mL_law.2.1 914 = .ok (.iconst 3, 1) := by decide +kernel
theorem dL_law_915 : decode mL_law.2.1 915 = .ok (.iadd, 1) := by decide +kernel
theorem dL_law_916 : decode mL_law.2.1 916 = .ok (.iaload, 1) := by decide +kernel
theorem dL_law_917 : decode mL_law.2.1 917 = .ok (.invokevirtual 106, 3) := by decide +kernel
theorem dL_law_920 : decode mL_law.2.1 920 = .ok (.if_icmp .eq 459, 3) := by decide +kernel
theorem dL_law_923 : decode mL_law.2.1 923 = .ok (.iconst 0, 1) := by decide +kernel
theorem dL_law_924 : decode mL_law.2.1 924 = .ok (.ireturn, 1) := by decide +kernel
theorem dL_law_925 : decode mL_law.2.1 925 = .ok (.aload_n 1, 1) := by decide +kernel
theorem dL_law_926 : decode mL_law.2.1 926 = .ok (.aload_n 0, 1) := by decide +kernel
theorem dL_law_927 : decode mL_law.2.1 927 = .ok (.iload_n 3, 1) := by decide +kernel
theorem dL_law_928 : decode mL_law.2.1 928 = .ok (.iconst 1, 1) := by decide +kernel
theorem dL_law_929 : decode mL_law.2.1 929 = .ok (.iadd, 1) := by decide +kernel
theorem dL_law_930 : decode mL_law.2.1 930 = .ok (.iaload, 1) := by decide +kernel
theorem dL_law_931 : decode mL_law.2.1 931 = .ok (.aload_n 0, 1) := by decide +kernel
theorem dL_law_932 : decode mL_law.2.1 932 = .ok (.iload_n 3, 1) := by decide +kernel
theorem dL_law_933 : decode mL_law.2.1 933 = .ok (.iconst 2, 1) := by decide +kernel
theorem dL_law_934 : decode mL_law.2.1 934 = .ok (.iadd, 1) := by decide +kernel
theorem dL_law_935 : decode mL_law.2.1 935 = .ok (.iaload, 1) := by decide +kernel
theorem dL_law_936 : decode mL_law.2.1 936 = .ok (.aload_n 0, 1) := by decide +kernel
theorem dL_law_937 : decode mL_law.2.1 937 = .ok (.iload_n 3, 1) := by decide +kernel
theorem dL_law_938 : decode mL_law.2.1 938 = .ok (.iconst 3, 1) := by decide +kernel
theorem dL_law_939 : decode mL_law.2.1 939 = .ok (.iadd, 1) := by decide +kernel
theorem dL_law_940 : decode mL_law.2.1 940 = .ok (.iaload, 1) := by decide +kernel
theorem dL_law_941 : decode mL_law.2.1 941 = .ok (.invokevirtual 107, 3) := by decide +kernel
theorem dL_law_944 : decode mL_law.2.1 944 = .ok (.aload_n 2, 1) := by decide +kernel
theorem dL_law_945 : decode mL_law.2.1 945 = .ok (.aload_n 0, 1) := by decide +kernel
theorem dL_law_946 : decode mL_law.2.1 946 = .ok (.iload_n 3, 1) := by decide +kernel
theorem dL_law_947 : decode mL_law.2.1 947 = .ok (.iconst 1, 1) := by decide +kernel
theorem dL_law_948 : decode mL_law.2.1 948 = .ok (.iadd, 1) := by decide +kernel
theorem dL_law_949 : decode mL_law.2.1 949 = .ok (.iaload, 1) := by decide +kernel
theorem dL_law_950 : decode mL_law.2.1 950 = .ok (.aload_n 0, 1) := by decide +kernel
theorem dL_law_951 : decode mL_law.2.1 951 = .ok (.iload_n 3, 1) := by decide +kernel
theorem dL_law_952 : decode mL_law.2.1 952 = .ok (.iconst 2, 1) := by decide +kernel
theorem dL_law_953 : decode mL_law.2.1 953 = .ok (.iadd, 1) := by decide +kernel
theorem dL_law_954 : decode mL_law.2.1 954 = .ok (.iaload, 1) := by decide +kernel
theorem dL_law_955 : decode mL_law.2.1 955 = .ok (.aload_n 0, 1) := by decide +kernel
theorem dL_law_956 : decode mL_law.2.1 956 = .ok (.iload_n 3, 1) := by decide +kernel
theorem dL_law_957 : decode mL_law.2.1 957 = .ok (.iconst 3, 1) := by decide +kernel
theorem dL_law_958 : decode mL_law.2.1 958 = .ok (.iadd, 1) := by decide +kernel
theorem dL_law_959 : decode mL_law.2.1 959 = .ok (.iaload, 1) := by decide +kernel
theorem dL_law_960 : decode mL_law.2.1 960 = .ok (.invokevirtual 110, 3) := by decide +kernel
theorem dL_law_963 : decode mL_law.2.1 963 = .ok (.if_icmp .eq 416, 3) := by decide +kernel
theorem dL_law_966 : decode mL_law.2.1 966 = .ok (.iconst 0, 1) := by decide +kernel
theorem dL_law_967 : decode mL_law.2.1 967 = .ok (.ireturn, 1) := by decide +kernel
theorem dL_law_968 : decode mL_law.2.1 968 = .ok (.aload_n 1, 1) := by decide +kernel
theorem dL_law_969 : decode mL_law.2.1 969 = .ok (.aload_n 0, 1) := by decide +kernel
theorem dL_law_970 : decode mL_law.2.1 970 = .ok (.iload_n 3, 1) := by decide +kernel
theorem dL_law_971 : decode mL_law.2.1 971 = .ok (.iconst 1, 1) := by decide +kernel
theorem dL_law_972 : decode mL_law.2.1 972 = .ok (.iadd, 1) := by decide +kernel
theorem dL_law_973 : decode mL_law.2.1 973 = .ok (.iaload, 1) := by decide +kernel
theorem dL_law_974 : decode mL_law.2.1 974 = .ok (.invokevirtual 111, 3) := by decide +kernel
theorem dL_law_977 : decode mL_law.2.1 977 = .ok (.aload_n 2, 1) := by decide +kernel
theorem dL_law_978 : decode mL_law.2.1 978 = .ok (.aload_n 0, 1) := by decide +kernel
theorem dL_law_979 : decode mL_law.2.1 979 = .ok (.iload_n 3, 1) := by decide +kernel
theorem dL_law_980 : decode mL_law.2.1 980 = .ok (.iconst 1, 1) := by decide +kernel
theorem dL_law_981 : decode mL_law.2.1 981 = .ok (.iadd, 1) := by decide +kernel
theorem dL_law_982 : decode mL_law.2.1 982 = .ok (.iaload, 1) := by decide +kernel
theorem dL_law_983 : decode mL_law.2.1 983 = .ok (.invokevirtual 114, 3) := by decide +kernel
theorem dL_law_986 : decode mL_law.2.1 986 = .ok (.if_icmp .eq 393, 3) := by decide +kernel
theorem dL_law_989 : decode mL_law.2.1 989 = .ok (.iconst 0, 1) := by decide +kernel
theorem dL_law_990 : decode mL_law.2.1 990 = .ok (.ireturn, 1) := by decide +kernel
theorem dL_law_991 : decode mL_law.2.1 991 = .ok (.aload_n 1, 1) := by decide +kernel
theorem dL_law_992 : decode mL_law.2.1 992 = .ok (.aload_n 0, 1) := by decide +kernel
theorem dL_law_993 : decode mL_law.2.1 993 = .ok (.iload_n 3, 1) := by decide +kernel
theorem dL_law_994 : decode mL_law.2.1 994 = .ok (.iconst 1, 1) := by decide +kernel
theorem dL_law_995 : decode mL_law.2.1 995 = .ok (.iadd, 1) := by decide +kernel
theorem dL_law_996 : decode mL_law.2.1 996 = .ok (.iaload, 1) := by decide +kernel
theorem dL_law_997 : decode mL_law.2.1 997 = .ok (.aload_n 0, 1) := by decide +kernel
theorem dL_law_998 : decode mL_law.2.1 998 = .ok (.iload_n 3, 1) := by decide +kernel
theorem dL_law_999 : decode mL_law.2.1 999 = .ok (.iconst 2, 1) := by decide +kernel
theorem dL_law_1000 : decode mL_law.2.1 1000 = .ok (.iadd, 1) := by decide +kernel
theorem dL_law_1001 : decode mL_law.2.1 1001 = .ok (.iaload, 1) := by decide +kernel
theorem dL_law_1002 : decode mL_law.2.1 1002 = .ok (.aload_n 0, 1) := by decide +kernel
theorem dL_law_1003 : decode mL_law.2.1 1003 = .ok (.iload_n 3, 1) := by decide +kernel
theorem dL_law_1004 : decode mL_law.2.1 1004 = .ok (.iconst 3, 1) := by decide +kernel
theorem dL_law_1005 : decode mL_law.2.1 1005 = .ok (.iadd, 1) := by decide +kernel
theorem dL_law_1006 : decode mL_law.2.1 1006 = .ok (.iaload, 1) := by decide +kernel
theorem dL_law_1007 : decode mL_law.2.1 1007 = .ok (.aload_n 0, 1) := by decide +kernel
theorem dL_law_1008 : decode mL_law.2.1 1008 = .ok (.iload_n 3, 1) := by decide +kernel
theorem dL_law_1009 : decode mL_law.2.1 1009 = .ok (.iconst 4, 1) := by decide +kernel
theorem dL_law_1010 : decode mL_law.2.1 1010 = .ok (.iadd, 1) := by decide +kernel
theorem dL_law_1011 : decode mL_law.2.1 1011 = .ok (.iaload, 1) := by decide +kernel
theorem dL_law_1012 : decode mL_law.2.1 1012 = .ok (.invokevirtual 115, 3) := by decide +kernel
theorem dL_law_1015 : decode mL_law.2.1 1015 = .ok (.aload_n 2, 1) := by decide +kernel
theorem dL_law_1016 : decode mL_law.2.1 1016 = .ok (.aload_n 0, 1) := by decide +kernel
theorem dL_law_1017 : decode mL_law.2.1 1017 = .ok (.iload_n 3, 1) := by decide +kernel
theorem dL_law_1018 : decode mL_law.2.1 1018 = .ok (.iconst 1, 1) := by decide +kernel
theorem dL_law_1019 : decode mL_law.2.1 1019 = .ok (.iadd, 1) := by decide +kernel
theorem dL_law_1020 : decode mL_law.2.1 1020 = .ok (.iaload, 1) := by decide +kernel
theorem dL_law_1021 : decode mL_law.2.1 1021 = .ok (.aload_n 0, 1) := by decide +kernel
theorem dL_law_1022 : decode mL_law.2.1 1022 = .ok (.iload_n 3, 1) := by decide +kernel
theorem dL_law_1023 : decode mL_law.2.1 1023 = .ok (.iconst 2, 1) := by decide +kernel
theorem dL_law_1024 : decode mL_law.2.1 1024 = .ok (.iadd, 1) := by decide +kernel
theorem dL_law_1025 : decode mL_law.2.1 1025 = .ok (.iaload, 1) := by decide +kernel
theorem dL_law_1026 : decode mL_law.2.1 1026 = .ok (.aload_n 0, 1) := by decide +kernel
theorem dL_law_1027 : decode mL_law.2.1 1027 = .ok (.iload_n 3, 1) := by decide +kernel
theorem dL_law_1028 : decode mL_law.2.1 1028 = .ok (.iconst 3, 1) := by decide +kernel
theorem dL_law_1029 : decode mL_law.2.1 1029 = .ok (.iadd, 1) := by decide +kernel
theorem dL_law_1030 : decode mL_law.2.1 1030 = .ok (.iaload, 1) := by decide +kernel
theorem dL_law_1031 : decode mL_law.2.1 1031 = .ok (.aload_n 0, 1) := by decide +kernel
theorem dL_law_1032 : decode mL_law.2.1 1032 = .ok (.iload_n 3, 1) := by decide +kernel
theorem dL_law_1033 : decode mL_law.2.1 1033 = .ok (.iconst 4, 1) := by decide +kernel
theorem dL_law_1034 : decode mL_law.2.1 1034 = .ok (.iadd, 1) := by decide +kernel
theorem dL_law_1035 : decode mL_law.2.1 1035 = .ok (.iaload, 1) := by decide +kernel
theorem dL_law_1036 : decode mL_law.2.1 1036 = .ok (.invokevirtual 119, 3) := by decide +kernel
theorem dL_law_1039 : decode mL_law.2.1 1039 = .ok (.if_icmp .eq 340, 3) := by decide +kernel
theorem dL_law_1042 : decode mL_law.2.1 1042 = .ok (.iconst 0, 1) := by decide +kernel
theorem dL_law_1043 : decode mL_law.2.1 1043 = .ok (.ireturn, 1) := by decide +kernel
theorem dL_law_1044 : decode mL_law.2.1 1044 = .ok (.aload_n 1, 1) := by decide +kernel
theorem dL_law_1045 : decode mL_law.2.1 1045 = .ok (.aload_n 0, 1) := by decide +kernel
theorem dL_law_1046 : decode mL_law.2.1 1046 = .ok (.iload_n 3, 1) := by decide +kernel
theorem dL_law_1047 : decode mL_law.2.1 1047 = .ok (.iconst 1, 1) := by decide +kernel
theorem dL_law_1048 : decode mL_law.2.1 1048 = .ok (.iadd, 1) := by decide +kernel
theorem dL_law_1049 : decode mL_law.2.1 1049 = .ok (.iaload, 1) := by decide +kernel
theorem dL_law_1050 : decode mL_law.2.1 1050 = .ok (.invokevirtual 120, 3) := by decide +kernel
theorem dL_law_1053 : decode mL_law.2.1 1053 = .ok (.aload_n 2, 1) := by decide +kernel
theorem dL_law_1054 : decode mL_law.2.1 1054 = .ok (.aload_n 0, 1) := by decide +kernel
theorem dL_law_1055 : decode mL_law.2.1 1055 = .ok (.iload_n 3, 1) := by decide +kernel
theorem dL_law_1056 : decode mL_law.2.1 1056 = .ok (.iconst 1, 1) := by decide +kernel
theorem dL_law_1057 : decode mL_law.2.1 1057 = .ok (.iadd, 1) := by decide +kernel
theorem dL_law_1058 : decode mL_law.2.1 1058 = .ok (.iaload, 1) := by decide +kernel
theorem dL_law_1059 : decode mL_law.2.1 1059 = .ok (.invokevirtual 123, 3) := by decide +kernel
theorem dL_law_1062 : decode mL_law.2.1 1062 = .ok (.if_icmp .eq 317, 3) := by decide +kernel
theorem dL_law_1065 : decode mL_law.2.1 1065 = .ok (.iconst 0, 1) := by decide +kernel
theorem dL_law_1066 : decode mL_law.2.1 1066 = .ok (.ireturn, 1) := by decide +kernel
theorem dL_law_1067 : decode mL_law.2.1 1067 = .ok (.aload_n 1, 1) := by decide +kernel
theorem dL_law_1068 : decode mL_law.2.1 1068 = .ok (.aload_n 0, 1) := by decide +kernel
theorem dL_law_1069 : decode mL_law.2.1 1069 = .ok (.iload_n 3, 1) := by decide +kernel
theorem dL_law_1070 : decode mL_law.2.1 1070 = .ok (.iconst 1, 1) := by decide +kernel
theorem dL_law_1071 : decode mL_law.2.1 1071 = .ok (.iadd, 1) := by decide +kernel
theorem dL_law_1072 : decode mL_law.2.1 1072 = .ok (.iaload, 1) := by decide +kernel
theorem dL_law_1073 : decode mL_law.2.1 1073 = .ok (.invokevirtual 124, 3) := by decide +kernel
theorem dL_law_1076 : decode mL_law.2.1 1076 = .ok (.aload_n 2, 1) := by decide +kernel
theorem dL_law_1077 : decode mL_law.2.1 1077 = .ok (.aload_n 0, 1) := by decide +kernel
theorem dL_law_1078 : decode mL_law.2.1 1078 = .ok (.iload_n 3, 1) := by decide +kernel
theorem dL_law_1079 : decode mL_law.2.1 1079 = .ok (.iconst 1, 1) := by decide +kernel
theorem dL_law_1080 : decode mL_law.2.1 1080 = .ok (.iadd, 1) := by decide +kernel
theorem dL_law_1081 : decode mL_law.2.1 1081 = .ok (.iaload, 1) := by decide +kernel
theorem dL_law_1082 : decode mL_law.2.1 1082 = .ok (.invokevirtual 127, 3) := by decide +kernel
theorem dL_law_1085 : decode mL_law.2.1 1085 = .ok (.if_icmp .eq 294, 3) := by decide +kernel
theorem dL_law_1088 : decode mL_law.2.1 1088 = .ok (.iconst 0, 1) := by decide +kernel
theorem dL_law_1089 : decode mL_law.2.1 1089 = .ok (.ireturn, 1) := by decide +kernel
theorem dL_law_1090 : decode mL_law.2.1 1090 = .ok (.aload_n 1, 1) := by decide +kernel
theorem dL_law_1091 : decode mL_law.2.1 1091 = .ok (.aload_n 0, 1) := by decide +kernel
theorem dL_law_1092 : decode mL_law.2.1 1092 = .ok (.iload_n 3, 1) := by decide +kernel
theorem dL_law_1093 : decode mL_law.2.1 1093 = .ok (.iconst 1, 1) := by decide +kernel
theorem dL_law_1094 : decode mL_law.2.1 1094 = .ok (.iadd, 1) := by decide +kernel
theorem dL_law_1095 : decode mL_law.2.1 1095 = .ok (.iaload, 1) := by decide +kernel
theorem dL_law_1096 : decode mL_law.2.1 1096 = .ok (.aload_n 0, 1) := by decide +kernel
theorem dL_law_1097 : decode mL_law.2.1 1097 = .ok (.iload_n 3, 1) := by decide +kernel
theorem dL_law_1098 : decode mL_law.2.1 1098 = .ok (.iconst 2, 1) := by decide +kernel
theorem dL_law_1099 : decode mL_law.2.1 1099 = .ok (.iadd, 1) := by decide +kernel
theorem dL_law_1100 : decode mL_law.2.1 1100 = .ok (.iaload, 1) := by decide +kernel
theorem dL_law_1101 : decode mL_law.2.1 1101 = .ok (.aload_n 0, 1) := by decide +kernel
theorem dL_law_1102 : decode mL_law.2.1 1102 = .ok (.iload_n 3, 1) := by decide +kernel
theorem dL_law_1103 : decode mL_law.2.1 1103 = .ok (.iconst 3, 1) := by decide +kernel
theorem dL_law_1104 : decode mL_law.2.1 1104 = .ok (.iadd, 1) := by decide +kernel
theorem dL_law_1105 : decode mL_law.2.1 1105 = .ok (.iaload, 1) := by decide +kernel
theorem dL_law_1106 : decode mL_law.2.1 1106 = .ok (.aload_n 0, 1) := by decide +kernel
theorem dL_law_1107 : decode mL_law.2.1 1107 = .ok (.iload_n 3, 1) := by decide +kernel
theorem dL_law_1108 : decode mL_law.2.1 1108 = .ok (.iconst 4, 1) := by decide +kernel
theorem dL_law_1109 : decode mL_law.2.1 1109 = .ok (.iadd, 1) := by decide +kernel
theorem dL_law_1110 : decode mL_law.2.1 1110 = .ok (.iaload, 1) := by decide +kernel
theorem dL_law_1111 : decode mL_law.2.1 1111 = .ok (.invokevirtual 128, 3) := by decide +kernel
theorem dL_law_1114 : decode mL_law.2.1 1114 = .ok (.aload_n 2, 1) := by decide +kernel
theorem dL_law_1115 : decode mL_law.2.1 1115 = .ok (.aload_n 0, 1) := by decide +kernel
theorem dL_law_1116 : decode mL_law.2.1 1116 = .ok (.iload_n 3, 1) := by decide +kernel
theorem dL_law_1117 : decode mL_law.2.1 1117 = .ok (.iconst 1, 1) := by decide +kernel
theorem dL_law_1118 : decode mL_law.2.1 1118 = .ok (.iadd, 1) := by decide +kernel
theorem dL_law_1119 : decode mL_law.2.1 1119 = .ok (.iaload, 1) := by decide +kernel
theorem dL_law_1120 : decode mL_law.2.1 1120 = .ok (.aload_n 0, 1) := by decide +kernel
theorem dL_law_1121 : decode mL_law.2.1 1121 = .ok (.iload_n 3, 1) := by decide +kernel
theorem dL_law_1122 : decode mL_law.2.1 1122 = .ok (.iconst 2, 1) := by decide +kernel
theorem dL_law_1123 : decode mL_law.2.1 1123 = .ok (.iadd, 1) := by decide +kernel
theorem dL_law_1124 : decode mL_law.2.1 1124 = .ok (.iaload, 1) := by decide +kernel
theorem dL_law_1125 : decode mL_law.2.1 1125 = .ok (.aload_n 0, 1) := by decide +kernel
theorem dL_law_1126 : decode mL_law.2.1 1126 = .ok (.iload_n 3, 1) := by decide +kernel
theorem dL_law_1127 : decode mL_law.2.1 1127 = .ok (.iconst 3, 1) := by decide +kernel
theorem dL_law_1128 : decode mL_law.2.1 1128 = .ok (.iadd, 1) := by decide +kernel
theorem dL_law_1129 : decode mL_law.2.1 1129 = .ok (.iaload, 1) := by decide +kernel
theorem dL_law_1130 : decode mL_law.2.1 1130 = .ok (.aload_n 0, 1) := by decide +kernel
theorem dL_law_1131 : decode mL_law.2.1 1131 = .ok (.iload_n 3, 1) := by decide +kernel
theorem dL_law_1132 : decode mL_law.2.1 1132 = .ok (.iconst 4, 1) := by decide +kernel
theorem dL_law_1133 : decode mL_law.2.1 1133 = .ok (.iadd, 1) := by decide +kernel
theorem dL_law_1134 : decode mL_law.2.1 1134 = .ok (.iaload, 1) := by decide +kernel
theorem dL_law_1135 : decode mL_law.2.1 1135 = .ok (.invokevirtual 132, 3) := by decide +kernel
theorem dL_law_1138 : decode mL_law.2.1 1138 = .ok (.if_icmp .eq 241, 3) := by decide +kernel
theorem dL_law_1141 : decode mL_law.2.1 1141 = .ok (.iconst 0, 1) := by decide +kernel
theorem dL_law_1142 : decode mL_law.2.1 1142 = .ok (.ireturn, 1) := by decide +kernel
theorem dL_law_1143 : decode mL_law.2.1 1143 = .ok (.aload_n 1, 1) := by decide +kernel
theorem dL_law_1144 : decode mL_law.2.1 1144 = .ok (.aload_n 0, 1) := by decide +kernel
theorem dL_law_1145 : decode mL_law.2.1 1145 = .ok (.iload_n 3, 1) := by decide +kernel
theorem dL_law_1146 : decode mL_law.2.1 1146 = .ok (.iconst 1, 1) := by decide +kernel
theorem dL_law_1147 : decode mL_law.2.1 1147 = .ok (.iadd, 1) := by decide +kernel
theorem dL_law_1148 : decode mL_law.2.1 1148 = .ok (.iaload, 1) := by decide +kernel
theorem dL_law_1149 : decode mL_law.2.1 1149 = .ok (.aload_n 0, 1) := by decide +kernel
theorem dL_law_1150 : decode mL_law.2.1 1150 = .ok (.iload_n 3, 1) := by decide +kernel
theorem dL_law_1151 : decode mL_law.2.1 1151 = .ok (.iconst 2, 1) := by decide +kernel
theorem dL_law_1152 : decode mL_law.2.1 1152 = .ok (.iadd, 1) := by decide +kernel
theorem dL_law_1153 : decode mL_law.2.1 1153 = .ok (.iaload, 1) := by decide +kernel
theorem dL_law_1154 : decode mL_law.2.1 1154 = .ok (.invokevirtual 133, 3) := by decide +kernel
theorem dL_law_1157 : decode mL_law.2.1 1157 = .ok (.aload_n 2, 1) := by decide +kernel
theorem dL_law_1158 : decode mL_law.2.1 1158 = .ok (.aload_n 0, 1) := by decide +kernel
theorem dL_law_1159 : decode mL_law.2.1 1159 = .ok (.iload_n 3, 1) := by decide +kernel
theorem dL_law_1160 : decode mL_law.2.1 1160 = .ok (.iconst 1, 1) := by decide +kernel
theorem dL_law_1161 : decode mL_law.2.1 1161 = .ok (.iadd, 1) := by decide +kernel
theorem dL_law_1162 : decode mL_law.2.1 1162 = .ok (.iaload, 1) := by decide +kernel
theorem dL_law_1163 : decode mL_law.2.1 1163 = .ok (.aload_n 0, 1) := by decide +kernel
theorem dL_law_1164 : decode mL_law.2.1 1164 = .ok (.iload_n 3, 1) := by decide +kernel
theorem dL_law_1165 : decode mL_law.2.1 1165 = .ok (.iconst 2, 1) := by decide +kernel
theorem dL_law_1166 : decode mL_law.2.1 1166 = .ok (.iadd, 1) := by decide +kernel
theorem dL_law_1167 : decode mL_law.2.1 1167 = .ok (.iaload, 1) := by decide +kernel
theorem dL_law_1168 : decode mL_law.2.1 1168 = .ok (.invokevirtual 136, 3) := by decide +kernel
theorem dL_law_1171 : decode mL_law.2.1 1171 = .ok (.if_icmp .eq 208, 3) := by decide +kernel
theorem dL_law_1174 : decode mL_law.2.1 1174 = .ok (.iconst 0, 1) := by decide +kernel
theorem dL_law_1175 : decode mL_law.2.1 1175 = .ok (.ireturn, 1) := by decide +kernel
theorem dL_law_1176 : decode mL_law.2.1 1176 = .ok (.aload_n 1, 1) := by decide +kernel
theorem dL_law_1177 : decode mL_law.2.1 1177 = .ok (.aload_n 0, 1) := by decide +kernel
theorem dL_law_1178 : decode mL_law.2.1 1178 = .ok (.iload_n 3, 1) := by decide +kernel
theorem dL_law_1179 : decode mL_law.2.1 1179 = .ok (.iconst 1, 1) := by decide +kernel
theorem dL_law_1180 : decode mL_law.2.1 1180 = .ok (.iadd, 1) := by decide +kernel
theorem dL_law_1181 : decode mL_law.2.1 1181 = .ok (.iaload, 1) := by decide +kernel
theorem dL_law_1182 : decode mL_law.2.1 1182 = .ok (.aload_n 0, 1) := by decide +kernel
theorem dL_law_1183 : decode mL_law.2.1 1183 = .ok (.iload_n 3, 1) := by decide +kernel
theorem dL_law_1184 : decode mL_law.2.1 1184 = .ok (.iconst 2, 1) := by decide +kernel
theorem dL_law_1185 : decode mL_law.2.1 1185 = .ok (.iadd, 1) := by decide +kernel
theorem dL_law_1186 : decode mL_law.2.1 1186 = .ok (.iaload, 1) := by decide +kernel
theorem dL_law_1187 : decode mL_law.2.1 1187 = .ok (.aload_n 0, 1) := by decide +kernel
theorem dL_law_1188 : decode mL_law.2.1 1188 = .ok (.iload_n 3, 1) := by decide +kernel
theorem dL_law_1189 : decode mL_law.2.1 1189 = .ok (.iconst 3, 1) := by decide +kernel
theorem dL_law_1190 : decode mL_law.2.1 1190 = .ok (.iadd, 1) := by decide +kernel
theorem dL_law_1191 : decode mL_law.2.1 1191 = .ok (.iaload, 1) := by decide +kernel
theorem dL_law_1192 : decode mL_law.2.1 1192 = .ok (.invokevirtual 137, 3) := by decide +kernel
theorem dL_law_1195 : decode mL_law.2.1 1195 = .ok (.aload_n 2, 1) := by decide +kernel
theorem dL_law_1196 : decode mL_law.2.1 1196 = .ok (.aload_n 0, 1) := by decide +kernel
theorem dL_law_1197 : decode mL_law.2.1 1197 = .ok (.iload_n 3, 1) := by decide +kernel
theorem dL_law_1198 : decode mL_law.2.1 1198 = .ok (.iconst 1, 1) := by decide +kernel
theorem dL_law_1199 : decode mL_law.2.1 1199 = .ok (.iadd, 1) := by decide +kernel
theorem dL_law_1200 : decode mL_law.2.1 1200 = .ok (.iaload, 1) := by decide +kernel
theorem dL_law_1201 : decode mL_law.2.1 1201 = .ok (.aload_n 0, 1) := by decide +kernel
theorem dL_law_1202 : decode mL_law.2.1 1202 = .ok (.iload_n 3, 1) := by decide +kernel
theorem dL_law_1203 : decode mL_law.2.1 1203 = .ok (.iconst 2, 1) := by decide +kernel
theorem dL_law_1204 : decode mL_law.2.1 1204 = .ok (.iadd, 1) := by decide +kernel
theorem dL_law_1205 : decode mL_law.2.1 1205 = .ok (.iaload, 1) := by decide +kernel
theorem dL_law_1206 : decode mL_law.2.1 1206 = .ok (.aload_n 0, 1) := by decide +kernel
theorem dL_law_1207 : decode mL_law.2.1 1207 = .ok (.iload_n 3, 1) := by decide +kernel
theorem dL_law_1208 : decode mL_law.2.1 1208 = .ok (.iconst 3, 1) := by decide +kernel
theorem dL_law_1209 : decode mL_law.2.1 1209 = .ok (.iadd, 1) := by decide +kernel
theorem dL_law_1210 : decode mL_law.2.1 1210 = .ok (.iaload, 1) := by decide +kernel
theorem dL_law_1211 : decode mL_law.2.1 1211 = .ok (.invokevirtual 140, 3) := by decide +kernel
theorem dL_law_1214 : decode mL_law.2.1 1214 = .ok (.if_icmp .eq 165, 3) := by decide +kernel
theorem dL_law_1217 : decode mL_law.2.1 1217 = .ok (.iconst 0, 1) := by decide +kernel
theorem dL_law_1218 : decode mL_law.2.1 1218 = .ok (.ireturn, 1) := by decide +kernel
theorem dL_law_1219 : decode mL_law.2.1 1219 = .ok (.aload_n 1, 1) := by decide +kernel
theorem dL_law_1220 : decode mL_law.2.1 1220 = .ok (.aload_n 0, 1) := by decide +kernel
theorem dL_law_1221 : decode mL_law.2.1 1221 = .ok (.iload_n 3, 1) := by decide +kernel
theorem dL_law_1222 : decode mL_law.2.1 1222 = .ok (.iconst 1, 1) := by decide +kernel
theorem dL_law_1223 : decode mL_law.2.1 1223 = .ok (.iadd, 1) := by decide +kernel
theorem dL_law_1224 : decode mL_law.2.1 1224 = .ok (.iaload, 1) := by decide +kernel
theorem dL_law_1225 : decode mL_law.2.1 1225 = .ok (.aload_n 0, 1) := by decide +kernel
theorem dL_law_1226 : decode mL_law.2.1 1226 = .ok (.iload_n 3, 1) := by decide +kernel
theorem dL_law_1227 : decode mL_law.2.1 1227 = .ok (.iconst 2, 1) := by decide +kernel
theorem dL_law_1228 : decode mL_law.2.1 1228 = .ok (.iadd, 1) := by decide +kernel
theorem dL_law_1229 : decode mL_law.2.1 1229 = .ok (.iaload, 1) := by decide +kernel
theorem dL_law_1230 : decode mL_law.2.1 1230 = .ok (.aload_n 0, 1) := by decide +kernel
theorem dL_law_1231 : decode mL_law.2.1 1231 = .ok (.iload_n 3, 1) := by decide +kernel
theorem dL_law_1232 : decode mL_law.2.1 1232 = .ok (.iconst 3, 1) := by decide +kernel
theorem dL_law_1233 : decode mL_law.2.1 1233 = .ok (.iadd, 1) := by decide +kernel
theorem dL_law_1234 : decode mL_law.2.1 1234 = .ok (.iaload, 1) := by decide +kernel
theorem dL_law_1235 : decode mL_law.2.1 1235 = .ok (.aload_n 0, 1) := by decide +kernel
theorem dL_law_1236 : decode mL_law.2.1 1236 = .ok (.iload_n 3, 1) := by decide +kernel
theorem dL_law_1237 : decode mL_law.2.1 1237 = .ok (.iconst 4, 1) := by decide +kernel
theorem dL_law_1238 : decode mL_law.2.1 1238 = .ok (.iadd, 1) := by decide +kernel
theorem dL_law_1239 : decode mL_law.2.1 1239 = .ok (.iaload, 1) := by decide +kernel
theorem dL_law_1240 : decode mL_law.2.1 1240 = .ok (.invokevirtual 141, 3) := by decide +kernel
theorem dL_law_1243 : decode mL_law.2.1 1243 = .ok (.aload_n 2, 1) := by decide +kernel
theorem dL_law_1244 : decode mL_law.2.1 1244 = .ok (.aload_n 0, 1) := by decide +kernel
theorem dL_law_1245 : decode mL_law.2.1 1245 = .ok (.iload_n 3, 1) := by decide +kernel
theorem dL_law_1246 : decode mL_law.2.1 1246 = .ok (.iconst 1, 1) := by decide +kernel
theorem dL_law_1247 : decode mL_law.2.1 1247 = .ok (.iadd, 1) := by decide +kernel
theorem dL_law_1248 : decode mL_law.2.1 1248 = .ok (.iaload, 1) := by decide +kernel
theorem dL_law_1249 : decode mL_law.2.1 1249 = .ok (.aload_n 0, 1) := by decide +kernel
theorem dL_law_1250 : decode mL_law.2.1 1250 = .ok (.iload_n 3, 1) := by decide +kernel
theorem dL_law_1251 : decode mL_law.2.1 1251 = .ok (.iconst 2, 1) := by decide +kernel
theorem dL_law_1252 : decode mL_law.2.1 1252 = .ok (.iadd, 1) := by decide +kernel
theorem dL_law_1253 : decode mL_law.2.1 1253 = .ok (.iaload, 1) := by decide +kernel
theorem dL_law_1254 : decode mL_law.2.1 1254 = .ok (.aload_n 0, 1) := by decide +kernel
theorem dL_law_1255 : decode mL_law.2.1 1255 = .ok (.iload_n 3, 1) := by decide +kernel
theorem dL_law_1256 : decode mL_law.2.1 1256 = .ok (.iconst 3, 1) := by decide +kernel
theorem dL_law_1257 : decode mL_law.2.1 1257 = .ok (.iadd, 1) := by decide +kernel
theorem dL_law_1258 : decode mL_law.2.1 1258 = .ok (.iaload, 1) := by decide +kernel
theorem dL_law_1259 : decode mL_law.2.1 1259 = .ok (.aload_n 0, 1) := by decide +kernel
theorem dL_law_1260 : decode mL_law.2.1 1260 = .ok (.iload_n 3, 1) := by decide +kernel
theorem dL_law_1261 : decode mL_law.2.1 1261 = .ok (.iconst 4, 1) := by decide +kernel
theorem dL_law_1262 : decode mL_law.2.1 1262 = .ok (.iadd, 1) := by decide +kernel
theorem dL_law_1263 : decode mL_law.2.1 1263 = .ok (.iaload, 1) := by decide +kernel
theorem dL_law_1264 : decode mL_law.2.1 1264 = .ok (.invokevirtual 144, 3) := by decide +kernel
theorem dL_law_1267 : decode mL_law.2.1 1267 = .ok (.if_icmp .eq 112, 3) := by decide +kernel
theorem dL_law_1270 : decode mL_law.2.1 1270 = .ok (.iconst 0, 1) := by decide +kernel
theorem dL_law_1271 : decode mL_law.2.1 1271 = .ok (.ireturn, 1) := by decide +kernel
theorem dL_law_1272 : decode mL_law.2.1 1272 = .ok (.aload_n 1, 1) := by decide +kernel
theorem dL_law_1273 : decode mL_law.2.1 1273 = .ok (.aload_n 0, 1) := by decide +kernel
theorem dL_law_1274 : decode mL_law.2.1 1274 = .ok (.iload_n 3, 1) := by decide +kernel
theorem dL_law_1275 : decode mL_law.2.1 1275 = .ok (.iconst 1, 1) := by decide +kernel
theorem dL_law_1276 : decode mL_law.2.1 1276 = .ok (.iadd, 1) := by decide +kernel
theorem dL_law_1277 : decode mL_law.2.1 1277 = .ok (.iaload, 1) := by decide +kernel
theorem dL_law_1278 : decode mL_law.2.1 1278 = .ok (.aload_n 0, 1) := by decide +kernel
theorem dL_law_1279 : decode mL_law.2.1 1279 = .ok (.iload_n 3, 1) := by decide +kernel
theorem dL_law_1280 : decode mL_law.2.1 1280 = .ok (.iconst 2, 1) := by decide +kernel
theorem dL_law_1281 : decode mL_law.2.1 1281 = .ok (.iadd, 1) := by decide +kernel
theorem dL_law_1282 : decode mL_law.2.1 1282 = .ok (.iaload, 1) := by decide +kernel
theorem dL_law_1283 : decode mL_law.2.1 1283 = .ok (.invokevirtual 145, 3) := by decide +kernel
theorem dL_law_1286 : decode mL_law.2.1 1286 = .ok (.aload_n 2, 1) := by decide +kernel
theorem dL_law_1287 : decode mL_law.2.1 1287 = .ok (.aload_n 0, 1) := by decide +kernel
theorem dL_law_1288 : decode mL_law.2.1 1288 = .ok (.iload_n 3, 1) := by decide +kernel
theorem dL_law_1289 : decode mL_law.2.1 1289 = .ok (.iconst 1, 1) := by decide +kernel
theorem dL_law_1290 : decode mL_law.2.1 1290 = .ok (.iadd, 1) := by decide +kernel
theorem dL_law_1291 : decode mL_law.2.1 1291 = .ok (.iaload, 1) := by decide +kernel
theorem dL_law_1292 : decode mL_law.2.1 1292 = .ok (.aload_n 0, 1) := by decide +kernel
theorem dL_law_1293 : decode mL_law.2.1 1293 = .ok (.iload_n 3, 1) := by decide +kernel
theorem dL_law_1294 : decode mL_law.2.1 1294 = .ok (.iconst 2, 1) := by decide +kernel
theorem dL_law_1295 : decode mL_law.2.1 1295 = .ok (.iadd, 1) := by decide +kernel
theorem dL_law_1296 : decode mL_law.2.1 1296 = .ok (.iaload, 1) := by decide +kernel
theorem dL_law_1297 : decode mL_law.2.1 1297 = .ok (.invokevirtual 148, 3) := by decide +kernel
theorem dL_law_1300 : decode mL_law.2.1 1300 = .ok (.if_icmp .eq 79, 3) := by decide +kernel
theorem dL_law_1303 : decode mL_law.2.1 1303 = .ok (.iconst 0, 1) := by decide +kernel
theorem dL_law_1304 : decode mL_law.2.1 1304 = .ok (.ireturn, 1) := by decide +kernel
theorem dL_law_1305 : decode mL_law.2.1 1305 = .ok (.aload_n 1, 1) := by decide +kernel
theorem dL_law_1306 : decode mL_law.2.1 1306 = .ok (.aload_n 0, 1) := by decide +kernel
theorem dL_law_1307 : decode mL_law.2.1 1307 = .ok (.iload_n 3, 1) := by decide +kernel
theorem dL_law_1308 : decode mL_law.2.1 1308 = .ok (.iconst 1, 1) := by decide +kernel
theorem dL_law_1309 : decode mL_law.2.1 1309 = .ok (.iadd, 1) := by decide +kernel
theorem dL_law_1310 : decode mL_law.2.1 1310 = .ok (.iaload, 1) := by decide +kernel
theorem dL_law_1311 : decode mL_law.2.1 1311 = .ok (.invokevirtual 149, 3) := by decide +kernel
theorem dL_law_1314 : decode mL_law.2.1 1314 = .ok (.aload_n 2, 1) := by decide +kernel
theorem dL_law_1315 : decode mL_law.2.1 1315 = .ok (.aload_n 0, 1) := by decide +kernel
theorem dL_law_1316 : decode mL_law.2.1 1316 = .ok (.iload_n 3, 1) := by decide +kernel
theorem dL_law_1317 : decode mL_law.2.1 1317 = .ok (.iconst 1, 1) := by decide +kernel
theorem dL_law_1318 : decode mL_law.2.1 1318 = .ok (.iadd, 1) := by decide +kernel
theorem dL_law_1319 : decode mL_law.2.1 1319 = .ok (.iaload, 1) := by decide +kernel
theorem dL_law_1320 : decode mL_law.2.1 1320 = .ok (.invokevirtual 152, 3) := by decide +kernel
theorem dL_law_1323 : decode mL_law.2.1 1323 = .ok (.if_icmp .eq 56, 3) := by decide +kernel
theorem dL_law_1326 : decode mL_law.2.1 1326 = .ok (.iconst 0, 1) := by decide +kernel
theorem dL_law_1327 : decode mL_law.2.1 1327 = .ok (.ireturn, 1) := by decide +kernel
theorem dL_law_1328 : decode mL_law.2.1 1328 = .ok (.aload_n 1, 1) := by decide +kernel
theorem dL_law_1329 : decode mL_law.2.1 1329 = .ok (.invokevirtual 153, 3) := by decide +kernel
theorem dL_law_1332 : decode mL_law.2.1 1332 = .ok (.aload_n 2, 1) := by decide +kernel
theorem dL_law_1333 : decode mL_law.2.1 1333 = .ok (.invokevirtual 157, 3) := by decide +kernel
theorem dL_law_1336 : decode mL_law.2.1 1336 = .ok (.lcmp, 1) := by decide +kernel
theorem dL_law_1337 : decode mL_law.2.1 1337 = .ok (.ifCond .eq 42, 3) := by decide +kernel
theorem dL_law_1340 : decode mL_law.2.1 1340 = .ok (.iconst 0, 1) := by decide +kernel
theorem dL_law_1341 : decode mL_law.2.1 1341 = .ok (.ireturn, 1) := by decide +kernel
theorem dL_law_1342 : decode mL_law.2.1 1342 = .ok (.aload_n 1, 1) := by decide +kernel
theorem dL_law_1343 : decode mL_law.2.1 1343 = .ok (.invokevirtual 158, 3) := by decide +kernel
theorem dL_law_1346 : decode mL_law.2.1 1346 = .ok (.aload_n 2, 1) := by decide +kernel
theorem dL_law_1347 : decode mL_law.2.1 1347 = .ok (.invokevirtual 161, 3) := by decide +kernel
theorem dL_law_1350 : decode mL_law.2.1 1350 = .ok (.lcmp, 1) := by decide +kernel
theorem dL_law_1351 : decode mL_law.2.1 1351 = .ok (.ifCond .eq 28, 3) := by decide +kernel
theorem dL_law_1354 : decode mL_law.2.1 1354 = .ok (.iconst 0, 1) := by decide +kernel
theorem dL_law_1355 : decode mL_law.2.1 1355 = .ok (.ireturn, 1) := by decide +kernel
theorem dL_law_1356 : decode mL_law.2.1 1356 = .ok (.aload_n 1, 1) := by decide +kernel
theorem dL_law_1357 : decode mL_law.2.1 1357 = .ok (.aload_n 0, 1) := by decide +kernel
theorem dL_law_1358 : decode mL_law.2.1 1358 = .ok (.iload_n 3, 1) := by decide +kernel
theorem dL_law_1359 : decode mL_law.2.1 1359 = .ok (.iconst 1, 1) := by decide +kernel
theorem dL_law_1360 : decode mL_law.2.1 1360 = .ok (.iadd, 1) := by decide +kernel
theorem dL_law_1361 : decode mL_law.2.1 1361 = .ok (.iaload, 1) := by decide +kernel
theorem dL_law_1362 : decode mL_law.2.1 1362 = .ok (.invokevirtual 162, 3) := by decide +kernel
theorem dL_law_1365 : decode mL_law.2.1 1365 = .ok (.aload_n 2, 1) := by decide +kernel
theorem dL_law_1366 : decode mL_law.2.1 1366 = .ok (.aload_n 0, 1) := by decide +kernel
theorem dL_law_1367 : decode mL_law.2.1 1367 = .ok (.iload_n 3, 1) := by decide +kernel
theorem dL_law_1368 : decode mL_law.2.1 1368 = .ok (.iconst 1, 1) := by decide +kernel
theorem dL_law_1369 : decode mL_law.2.1 1369 = .ok (.iadd, 1) := by decide +kernel
theorem dL_law_1370 : decode mL_law.2.1 1370 = .ok (.iaload, 1) := by decide +kernel
theorem dL_law_1371 : decode mL_law.2.1 1371 = .ok (.invokevirtual 165, 3) := by decide +kernel
theorem dL_law_1374 : decode mL_law.2.1 1374 = .ok (.if_icmp .eq 5, 3) := by decide +kernel
theorem dL_law_1377 : decode mL_law.2.1 1377 = .ok (.iconst 0, 1) := by decide +kernel
theorem dL_law_1378 : decode mL_law.2.1 1378 = .ok (.ireturn, 1) := by decide +kernel
theorem dL_law_1379 : decode mL_law.2.1 1379 = .ok (.iinc 3 6, 3) := by decide +kernel
theorem dL_law_1382 : decode mL_law.2.1 1382 = .ok (.goto (-1364), 3) := by decide +kernel
theorem dL_law_1385 : decode mL_law.2.1 1385 = .ok (.iconst 1, 1) := by decide +kernel
theorem dL_law_1386 : decode mL_law.2.1 1386 = .ok (.ireturn, 1) := by decide +kernel
