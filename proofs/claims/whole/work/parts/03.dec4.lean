theorem dX10_knows_95 : decode cX10_knows 95 = .ok (.getfield 180, 3) := by decide +kernel
theorem dX10_knows_98 : decode cX10_knows 98 = .ok (.iconst 3, 1) := by decide +kernel
theorem dX10_knows_99 : decode cX10_knows 99 = .ok (.iload_n 2, 1) := by decide +kernel
theorem dX10_knows_100 : decode cX10_knows 100 = .ok (.imul, 1) := by decide +kernel
theorem dX10_knows_101 : decode cX10_knows 101 = .ok (.iconst 2, 1) := by decide +kernel
theorem dX10_knows_102 : decode cX10_knows 102 = .ok (.iadd, 1) := by decide +kernel
theorem dX10_knows_103 : decode cX10_knows 103 = .ok (.iaload, 1) := by decide +kernel
theorem dX10_knows_104 : decode cX10_knows 104 = .ok (.iastore, 1) := by decide +kernel
theorem dX10_knows_105 : decode cX10_knows 105 = .ok (.aload_n 0, 1) := by decide +kernel
theorem dX10_knows_106 : decode cX10_knows 106 = .ok (.getfield 111, 3) := by decide +kernel
theorem dX10_knows_109 : decode cX10_knows 109 = .ok (.iconst 3, 1) := by decide +kernel
theorem dX10_knows_110 : decode cX10_knows 110 = .ok (.aload_n 0, 1) := by decide +kernel
theorem dX10_knows_111 : decode cX10_knows 111 = .ok (.getfield 174, 3) := by decide +kernel
theorem dX10_knows_114 : decode cX10_knows 114 = .ok (.iload_n 2, 1) := by decide +kernel
theorem dX10_knows_115 : decode cX10_knows 115 = .ok (.iaload, 1) := by decide +kernel
theorem dX10_knows_116 : decode cX10_knows 116 = .ok (.iastore, 1) := by decide +kernel
theorem dX10_knows_117 : decode cX10_knows 117 = .ok (.aload_n 0, 1) := by decide +kernel
theorem dX10_knows_118 : decode cX10_knows 118 = .ok (.getfield 111, 3) := by decide +kernel
theorem dX10_knows_121 : decode cX10_knows 121 = .ok (.iconst 4, 1) := by decide +kernel
theorem dX10_knows_122 : decode cX10_knows 122 = .ok (.aload_n 0, 1) := by decide +kernel
theorem dX10_knows_123 : decode cX10_knows 123 = .ok (.getfield 162, 3) := by decide +kernel
theorem dX10_knows_126 : decode cX10_knows 126 = .ok (.aload_n 0, 1) := by decide +kernel
theorem dX10_knows_127 : decode cX10_knows 127 = .ok (.getfield 171, 3) := by decide +kernel
theorem dX10_knows_130 : decode cX10_knows 130 = .ok (.iload_n 2, 1) := by decide +kernel
theorem dX10_knows_131 : decode cX10_knows 131 = .ok (.iaload, 1) := by decide +kernel
theorem dX10_knows_132 : decode cX10_knows 132 = .ok (.iaload, 1) := by decide +kernel
theorem dX10_knows_133 : decode cX10_knows 133 = .ok (.iconst 1, 1) := by decide +kernel
theorem dX10_knows_134 : decode cX10_knows 134 = .ok (.isub, 1) := by decide +kernel
theorem dX10_knows_135 : decode cX10_knows 135 = .ok (.aload_n 0, 1) := by decide +kernel
theorem dX10_knows_136 : decode cX10_knows 136 = .ok (.getfield 174, 3) := by decide +kernel
theorem dX10_knows_139 : decode cX10_knows 139 = .ok (.iload_n 2, 1) := by decide +kernel
theorem dX10_knows_140 : decode cX10_knows 140 = .ok (.iaload, 1) := by decide +kernel
theorem dX10_knows_141 : decode cX10_knows 141 = .ok (.isub, 1) := by decide +kernel
theorem dX10_knows_142 : decode cX10_knows 142 = .ok (.iastore, 1) := by decide +kernel
theorem dX10_knows_143 : decode cX10_knows 143 = .ok (.aload_n 0, 1) := by decide +kernel
theorem dX10_knows_144 : decode cX10_knows 144 = .ok (.getfield 111, 3) := by decide +kernel
theorem dX10_knows_147 : decode cX10_knows 147 = .ok (.iconst 5, 1) := by decide +kernel
theorem dX10_knows_148 : decode cX10_knows 148 = .ok (.iload 5, 2) := by decide +kernel
theorem dX10_knows_150 : decode cX10_knows 150 = .ok (.ifCond .eq 7, 3) := by decide +kernel
theorem dX10_knows_153 : decode cX10_knows 153 = .ok (.iconst 1, 1) := by decide +kernel
theorem dX10_knows_154 : decode cX10_knows 154 = .ok (.goto 4, 3) := by decide +kernel
theorem dX10_knows_157 : decode cX10_knows 157 = .ok (.iconst 0, 1) := by decide +kernel
theorem dX10_knows_158 : decode cX10_knows 158 = .ok (.iastore, 1) := by decide +kernel
theorem dX10_knows_159 : decode cX10_knows 159 = .ok (.aload_n 0, 1) := by decide +kernel
theorem dX10_knows_160 : decode cX10_knows 160 = .ok (.getfield 111, 3) := by decide +kernel
theorem dX10_knows_163 : decode cX10_knows 163 = .ok (.bipush 6, 2) := by decide +kernel
theorem dX10_knows_165 : decode cX10_knows 165 = .ok (.iload 5, 2) := by decide +kernel
theorem dX10_knows_167 : decode cX10_knows 167 = .ok (.ifCond .eq 16, 3) := by decide +kernel
theorem dX10_knows_170 : decode cX10_knows 170 = .ok (.aload_n 0, 1) := by decide +kernel
theorem dX10_knows_171 : decode cX10_knows 171 = .ok (.getfield 165, 3) := by decide +kernel
theorem dX10_knows_174 : decode cX10_knows 174 = .ok (.iload_n 3, 1) := by decide +kernel
theorem dX10_knows_175 : decode cX10_knows 175 = .ok (.baload, 1) := by decide +kernel
theorem dX10_knows_176 : decode cX10_knows 176 = .ok (.ifCond .eq 7, 3) := by decide +kernel
theorem dX10_knows_179 : decode cX10_knows 179 = .ok (.iconst 1, 1) := by decide +kernel
theorem dX10_knows_180 : decode cX10_knows 180 = .ok (.goto 4, 3) := by decide +kernel
theorem dX10_knows_183 : decode cX10_knows 183 = .ok (.iconst 0, 1) := by decide +kernel
theorem dX10_knows_184 : decode cX10_knows 184 = .ok (.iastore, 1) := by decide +kernel
theorem dX10_knows_185 : decode cX10_knows 185 = .ok (.aload_n 0, 1) := by decide +kernel
theorem dX10_knows_186 : decode cX10_knows 186 = .ok (.getfield 111, 3) := by decide +kernel
theorem dX10_knows_189 : decode cX10_knows 189 = .ok (.bipush 7, 2) := by decide +kernel
theorem dX10_knows_191 : decode cX10_knows 191 = .ok (.aload_n 0, 1) := by decide +kernel
theorem dX10_knows_192 : decode cX10_knows 192 = .ok (.getfield 132, 3) := by decide +kernel
theorem dX10_knows_195 : decode cX10_knows 195 = .ok (.bipush 16, 2) := by decide +kernel
theorem dX10_knows_197 : decode cX10_knows 197 = .ok (.iload_n 1, 1) := by decide +kernel
theorem dX10_knows_198 : decode cX10_knows 198 = .ok (.imul, 1) := by decide +kernel
theorem dX10_knows_199 : decode cX10_knows 199 = .ok (.iload_n 3, 1) := by decide +kernel
theorem dX10_knows_200 : decode cX10_knows 200 = .ok (.iadd, 1) := by decide +kernel
theorem dX10_knows_201 : decode cX10_knows 201 = .ok (.baload, 1) := by decide +kernel
theorem dX10_knows_202 : decode cX10_knows 202 = .ok (.ifCond .eq 7, 3) := by decide +kernel
theorem dX10_knows_205 : decode cX10_knows 205 = .ok (.iconst 1, 1) := by decide +kernel
theorem dX10_knows_206 : decode cX10_knows 206 = .ok (.goto 4, 3) := by decide +kernel
theorem dX10_knows_209 : decode cX10_knows 209 = .ok (.iconst 0, 1) := by decide +kernel
theorem dX10_knows_210 : decode cX10_knows 210 = .ok (.iastore, 1) := by decide +kernel
theorem dX10_knows_211 : decode cX10_knows 211 = .ok (.aload_n 0, 1) := by decide +kernel
theorem dX10_knows_212 : decode cX10_knows 212 = .ok (.getfield 111, 3) := by decide +kernel
theorem dX10_knows_215 : decode cX10_knows 215 = .ok (.bipush 8, 2) := by decide +kernel
theorem dX10_knows_217 : decode cX10_knows 217 = .ok (.aload_n 0, 1) := by decide +kernel
theorem dX10_knows_218 : decode cX10_knows 218 = .ok (.getfield 135, 3) := by decide +kernel
theorem dX10_knows_221 : decode cX10_knows 221 = .ok (.bipush 16, 2) := by decide +kernel
theorem dX10_knows_223 : decode cX10_knows 223 = .ok (.iload_n 1, 1) := by decide +kernel
theorem dX10_knows_224 : decode cX10_knows 224 = .ok (.imul, 1) := by decide +kernel
theorem dX10_knows_225 : decode cX10_knows 225 = .ok (.iload_n 3, 1) := by decide +kernel
theorem dX10_knows_226 : decode cX10_knows 226 = .ok (.iadd, 1) := by decide +kernel
theorem dX10_knows_227 : decode cX10_knows 227 = .ok (.baload, 1) := by decide +kernel
theorem dX10_knows_228 : decode cX10_knows 228 = .ok (.ifCond .eq 7, 3) := by decide +kernel
theorem dX10_knows_231 : decode cX10_knows 231 = .ok (.iconst 1, 1) := by decide +kernel
theorem dX10_knows_232 : decode cX10_knows 232 = .ok (.goto 4, 3) := by decide +kernel
theorem dX10_knows_235 : decode cX10_knows 235 = .ok (.iconst 0, 1) := by decide +kernel
theorem dX10_knows_236 : decode cX10_knows 236 = .ok (.iastore, 1) := by decide +kernel
theorem dX10_knows_237 : decode cX10_knows 237 = .ok (.aload_n 0, 1) := by decide +kernel
theorem dX10_knows_238 : decode cX10_knows 238 = .ok (.getfield 111, 3) := by decide +kernel
theorem dX10_knows_241 : decode cX10_knows 241 = .ok (.bipush 9, 2) := by decide +kernel
theorem dX10_knows_243 : decode cX10_knows 243 = .ok (.aload_n 0, 1) := by decide +kernel
theorem dX10_knows_244 : decode cX10_knows 244 = .ok (.getfield 171, 3) := by decide +kernel
theorem dX10_knows_247 : decode cX10_knows 247 = .ok (.iload_n 2, 1) := by decide +kernel
theorem dX10_knows_248 : decode cX10_knows 248 = .ok (.iaload, 1) := by decide +kernel
theorem dX10_knows_249 : decode cX10_knows 249 = .ok (.iastore, 1) := by decide +kernel
theorem dX10_knows_250 : decode cX10_knows 250 = .ok (.aload_n 0, 1) := by decide +kernel
theorem dX10_knows_251 : decode cX10_knows 251 = .ok (.getfield 111, 3) := by decide +kernel
theorem dX10_knows_254 : decode cX10_knows 254 = .ok (.bipush 10, 2) := by decide +kernel
theorem dX10_knows_256 : decode cX10_knows 256 = .ok (.aload_n 0, 1) := by decide +kernel
theorem dX10_knows_257 : decode cX10_knows 257 = .ok (.getfield 171, 3) := by decide +kernel
theorem dX10_knows_260 : decode cX10_knows 260 = .ok (.iload_n 2, 1) := by decide +kernel
theorem dX10_knows_261 : decode cX10_knows 261 = .ok (.iaload, 1) := by decide +kernel
theorem dX10_knows_262 : decode cX10_knows 262 = .ok (.aload_n 0, 1) := by decide +kernel
theorem dX10_knows_263 : decode cX10_knows 263 = .ok (.getfield 300, 3) := by decide +kernel
theorem dX10_knows_266 : decode cX10_knows 266 = .ok (.iconst 1, 1) := by decide +kernel
theorem dX10_knows_267 : decode cX10_knows 267 = .ok (.isub, 1) := by decide +kernel
theorem dX10_knows_268 : decode cX10_knows 268 = .ok (.if_icmp .ne 7, 3) := by decide +kernel
theorem dX10_knows_271 : decode cX10_knows 271 = .ok (.iconst 1, 1) := by decide +kernel
theorem dX10_knows_272 : decode cX10_knows 272 = .ok (.goto 4, 3) := by decide +kernel
theorem dX10_knows_275 : decode cX10_knows 275 = .ok (.iconst 0, 1) := by decide +kernel
theorem dX10_knows_276 : decode cX10_knows 276 = .ok (.iastore, 1) := by decide +kernel
theorem dX10_knows_277 : decode cX10_knows 277 = .ok (.aload_n 0, 1) := by decide +kernel
theorem dX10_knows_278 : decode cX10_knows 278 = .ok (.getfield 111, 3) := by decide +kernel
theorem dX10_knows_281 : decode cX10_knows 281 = .ok (.bipush 11, 2) := by decide +kernel
theorem dX10_knows_283 : decode cX10_knows 283 = .ok (.iload_n 3, 1) := by decide +kernel
theorem dX10_knows_284 : decode cX10_knows 284 = .ok (.iastore, 1) := by decide +kernel
theorem dX10_knows_285 : decode cX10_knows 285 = .ok (.aload_n 0, 1) := by decide +kernel
theorem dX10_knows_286 : decode cX10_knows 286 = .ok (.getfield 111, 3) := by decide +kernel
theorem dX10_knows_289 : decode cX10_knows 289 = .ok (.bipush 12, 2) := by decide +kernel
theorem dX10_knows_291 : decode cX10_knows 291 = .ok (.aload_n 0, 1) := by decide +kernel
theorem dX10_knows_292 : decode cX10_knows 292 = .ok (.getfield 138, 3) := by decide +kernel
theorem dX10_knows_295 : decode cX10_knows 295 = .ok (.iload_n 1, 1) := by decide +kernel
theorem dX10_knows_296 : decode cX10_knows 296 = .ok (.iaload, 1) := by decide +kernel
theorem dX10_knows_297 : decode cX10_knows 297 = .ok (.iastore, 1) := by decide +kernel
theorem dX10_knows_298 : decode cX10_knows 298 = .ok (.return_, 1) := by decide +kernel
theorem dX10_within_0 : decode cX10_within 0 = .ok (.iload_n 0, 1) := by decide +kernel
theorem dX10_within_1 : decode cX10_within 1 = .ok (.iload_n 1, 1) := by decide +kernel
theorem dX10_within_2 : decode cX10_within 2 = .ok (.if_icmp .ge 7, 3) := by decide +kernel
theorem dX10_within_5 : decode cX10_within 5 = .ok (.iload_n 1, 1) := by decide +kernel
theorem dX10_within_6 : decode cX10_within 6 = .ok (.goto 13, 3) := by decide +kernel
theorem dX10_within_9 : decode cX10_within 9 = .ok (.iload_n 0, 1) := by decide +kernel
theorem dX10_within_10 : decode cX10_within 10 = .ok (.iload_n 2, 1) := by decide +kernel
theorem dX10_within_11 : decode cX10_within 11 = .ok (.if_icmp .le 7, 3) := by decide +kernel
theorem dX10_within_14 : decode cX10_within 14 = .ok (.iload_n 2, 1) := by decide +kernel
theorem dX10_within_15 : decode cX10_within 15 = .ok (.goto 4, 3) := by decide +kernel
theorem dX10_within_18 : decode cX10_within 18 = .ok (.iload_n 0, 1) := by decide +kernel
theorem dX10_within_19 : decode cX10_within 19 = .ok (.ireturn, 1) := by decide +kernel
theorem dX10_works_0 : decode cX10_works 0 = .ok (.iconst 0, 1) := by decide +kernel
theorem dX10_works_1 : decode cX10_works 1 = .ok (.istore_n 3, 1) := by decide +kernel
theorem dX10_works_2 : decode cX10_works 2 = .ok (.iload_n 3, 1) := by decide +kernel
theorem dX10_works_3 : decode cX10_works 3 = .ok (.aload_n 0, 1) := by decide +kernel
theorem dX10_works_4 : decode cX10_works 4 = .ok (.getfield 310, 3) := by decide +kernel
theorem dX10_works_7 : decode cX10_works 7 = .ok (.if_icmp .ge 155, 3) := by decide +kernel
theorem dX10_works_10 : decode cX10_works 10 = .ok (.aload_n 0, 1) := by decide +kernel
theorem dX10_works_11 : decode cX10_works 11 = .ok (.iload_n 1, 1) := by decide +kernel
theorem dX10_works_12 : decode cX10_works 12 = .ok (.iload_n 3, 1) := by decide +kernel
theorem dX10_works_13 : decode cX10_works 13 = .ok (.invokevirtual 313, 3) := by decide +kernel
theorem dX10_works_16 : decode cX10_works 16 = .ok (.aload_n 0, 1) := by decide +kernel
theorem dX10_works_17 : decode cX10_works 17 = .ok (.getfield 87, 3) := by decide +kernel
theorem dX10_works_20 : decode cX10_works 20 = .ok (.iload_n 2, 1) := by decide +kernel
theorem dX10_works_21 : decode cX10_works 21 = .ok (.iaload, 1) := by decide +kernel
theorem dX10_works_22 : decode cX10_works 22 = .ok (.istore 4, 2) := by decide +kernel
theorem dX10_works_24 : decode cX10_works 24 = .ok (.aload_n 0, 1) := by decide +kernel
theorem dX10_works_25 : decode cX10_works 25 = .ok (.getfield 93, 3) := by decide +kernel
theorem dX10_works_28 : decode cX10_works 28 = .ok (.iload_n 2, 1) := by decide +kernel
theorem dX10_works_29 : decode cX10_works 29 = .ok (.iaload, 1) := by decide +kernel
theorem dX10_works_30 : decode cX10_works 30 = .ok (.ifCond .lt 25, 3) := by decide +kernel
theorem dX10_works_33 : decode cX10_works 33 = .ok (.aload_n 0, 1) := by decide +kernel
theorem dX10_works_34 : decode cX10_works 34 = .ok (.sipush 1060, 3) := by decide +kernel
theorem dX10_works_37 : decode cX10_works 37 = .ok (.aload_n 0, 1) := by decide +kernel
theorem dX10_works_38 : decode cX10_works 38 = .ok (.getfield 246, 3) := by decide +kernel
theorem dX10_works_41 : decode cX10_works 41 = .ok (.imul, 1) := by decide +kernel
theorem dX10_works_42 : decode cX10_works 42 = .ok (.aload_n 0, 1) := by decide +kernel
theorem dX10_works_43 : decode cX10_works 43 = .ok (.getfield 93, 3) := by decide +kernel
theorem dX10_works_46 : decode cX10_works 46 = .ok (.iload_n 2, 1) := by decide +kernel
theorem dX10_works_47 : decode cX10_works 47 = .ok (.iaload, 1) := by decide +kernel
theorem dX10_works_48 : decode cX10_works 48 = .ok (.iadd, 1) := by decide +kernel
theorem dX10_works_49 : decode cX10_works 49 = .ok (.invokevirtual 316, 3) := by decide +kernel
theorem dX10_works_52 : decode cX10_works 52 = .ok (.ifCond .eq 104, 3) := by decide +kernel
theorem dX10_works_55 : decode cX10_works 55 = .ok (.aload_n 0, 1) := by decide +kernel
theorem dX10_works_56 : decode cX10_works 56 = .ok (.sipush 1060, 3) := by decide +kernel
theorem dX10_works_59 : decode cX10_works 59 = .ok (.aload_n 0, 1) := by decide +kernel
theorem dX10_works_60 : decode cX10_works 60 = .ok (.getfield 246, 3) := by decide +kernel
theorem dX10_works_63 : decode cX10_works 63 = .ok (.imul, 1) := by decide +kernel
theorem dX10_works_64 : decode cX10_works 64 = .ok (.aload_n 0, 1) := by decide +kernel
theorem dX10_works_65 : decode cX10_works 65 = .ok (.getfield 90, 3) := by decide +kernel
theorem dX10_works_68 : decode cX10_works 68 = .ok (.iload_n 2, 1) := by decide +kernel
theorem dX10_works_69 : decode cX10_works 69 = .ok (.iaload, 1) := by decide +kernel
theorem dX10_works_70 : decode cX10_works 70 = .ok (.iadd, 1) := by decide +kernel
theorem dX10_works_71 : decode cX10_works 71 = .ok (.invokevirtual 316, 3) := by decide +kernel
theorem dX10_works_74 : decode cX10_works 74 = .ok (.aload_n 0, 1) := by decide +kernel
theorem dX10_works_75 : decode cX10_works 75 = .ok (.getfield 83, 3) := by decide +kernel
theorem dX10_works_78 : decode cX10_works 78 = .ok (.iload_n 2, 1) := by decide +kernel
theorem dX10_works_79 : decode cX10_works 79 = .ok (.baload, 1) := by decide +kernel
theorem dX10_works_80 : decode cX10_works 80 = .ok (.ifCond .eq 17, 3) := by decide +kernel
theorem dX10_works_83 : decode cX10_works 83 = .ok (.aload_n 0, 1) := by decide +kernel
theorem dX10_works_84 : decode cX10_works 84 = .ok (.getfield 180, 3) := by decide +kernel
theorem dX10_works_87 : decode cX10_works 87 = .ok (.iconst 3, 1) := by decide +kernel
theorem dX10_works_88 : decode cX10_works 88 = .ok (.iload_n 3, 1) := by decide +kernel
theorem dX10_works_89 : decode cX10_works 89 = .ok (.imul, 1) := by decide +kernel
theorem dX10_works_90 : decode cX10_works 90 = .ok (.iload 4, 2) := by decide +kernel
theorem dX10_works_92 : decode cX10_works 92 = .ok (.iadd, 1) := by decide +kernel
theorem dX10_works_93 : decode cX10_works 93 = .ok (.iaload, 1) := by decide +kernel
theorem dX10_works_94 : decode cX10_works 94 = .ok (.goto 4, 3) := by decide +kernel
theorem dX10_works_97 : decode cX10_works 97 = .ok (.iconst 0, 1) := by decide +kernel
theorem dX10_works_98 : decode cX10_works 98 = .ok (.iadd, 1) := by decide +kernel
theorem dX10_works_99 : decode cX10_works 99 = .ok (.istore 5, 2) := by decide +kernel
theorem dX10_works_101 : decode cX10_works 101 = .ok (.aload_n 0, 1) := by decide +kernel
theorem dX10_works_102 : decode cX10_works 102 = .ok (.getfield 180, 3) := by decide +kernel
theorem dX10_works_105 : decode cX10_works 105 = .ok (.iconst 3, 1) := by decide +kernel
theorem dX10_works_106 : decode cX10_works 106 = .ok (.iload_n 3, 1) := by decide +kernel
theorem dX10_works_107 : decode cX10_works 107 = .ok (.imul, 1) := by decide +kernel
theorem dX10_works_108 : decode cX10_works 108 = .ok (.iload 4, 2) := by decide +kernel
theorem dX10_works_110 : decode cX10_works 110 = .ok (.iadd, 1) := by decide +kernel
theorem dX10_works_111 : decode cX10_works 111 = .ok (.iload 4, 2) := by decide +kernel
theorem dX10_works_113 : decode cX10_works 113 = .ok (.ifCond .ne 14, 3) := by decide +kernel
theorem dX10_works_116 : decode cX10_works 116 = .ok (.iload 5, 2) := by decide +kernel
theorem dX10_works_118 : decode cX10_works 118 = .ok (.iconst 1, 1) := by decide +kernel
theorem dX10_works_119 : decode cX10_works 119 = .ok (.bipush 99, 2) := by decide +kernel
theorem dX10_works_121 : decode cX10_works 121 = .ok (.invokestatic 319, 3) := by decide +kernel
theorem dX10_works_124 : decode cX10_works 124 = .ok (.goto 31, 3) := by decide +kernel
theorem dX10_works_127 : decode cX10_works 127 = .ok (.iload 4, 2) := by decide +kernel
theorem dX10_works_129 : decode cX10_works 129 = .ok (.iconst 1, 1) := by decide +kernel
theorem dX10_works_130 : decode cX10_works 130 = .ok (.if_icmp .ne 17, 3) := by decide +kernel
theorem dX10_works_133 : decode cX10_works 133 = .ok (.iload 5, 2) := by decide +kernel
theorem dX10_works_135 : decode cX10_works 135 = .ok (.sipush (-999), 3) := by decide +kernel
theorem dX10_works_138 : decode cX10_works 138 = .ok (.sipush 999, 3) := by decide +kernel
theorem dX10_works_141 : decode cX10_works 141 = .ok (.invokestatic 319, 3) := by decide +kernel
theorem dX10_works_144 : decode cX10_works 144 = .ok (.goto 11, 3) := by decide +kernel
theorem dX10_works_147 : decode cX10_works 147 = .ok (.iload 5, 2) := by decide +kernel
theorem dX10_works_149 : decode cX10_works 149 = .ok (.iconst 0, 1) := by decide +kernel
theorem dX10_works_150 : decode cX10_works 150 = .ok (.bipush 9, 2) := by decide +kernel
theorem dX10_works_152 : decode cX10_works 152 = .ok (.invokestatic 319, 3) := by decide +kernel
theorem dX10_works_155 : decode cX10_works 155 = .ok (.iastore, 1) := by decide +kernel
theorem dX10_works_156 : decode cX10_works 156 = .ok (.iinc 3 1, 3) := by decide +kernel
theorem dX10_works_159 : decode cX10_works 159 = .ok (.goto (-157), 3) := by decide +kernel
theorem dX10_works_162 : decode cX10_works 162 = .ok (.return_, 1) := by decide +kernel
theorem dX10_handOf_0 : decode cX10_handOf 0 = .ok (.aload_n 0, 1) := by decide +kernel
theorem dX10_handOf_1 : decode cX10_handOf 1 = .ok (.getfield 141, 3) := by decide +kernel
theorem dX10_handOf_4 : decode cX10_handOf 4 = .ok (.iconst 3, 1) := by decide +kernel
theorem dX10_handOf_5 : decode cX10_handOf 5 = .ok (.bipush 80, 2) := by decide +kernel
theorem dX10_handOf_7 : decode cX10_handOf 7 = .ok (.iload_n 1, 1) := by decide +kernel
theorem dX10_handOf_8 : decode cX10_handOf 8 = .ok (.imul, 1) := by decide +kernel
theorem dX10_handOf_9 : decode cX10_handOf 9 = .ok (.iload_n 2, 1) := by decide +kernel
theorem dX10_handOf_10 : decode cX10_handOf 10 = .ok (.iadd, 1) := by decide +kernel
theorem dX10_handOf_11 : decode cX10_handOf 11 = .ok (.imul, 1) := by decide +kernel
theorem dX10_handOf_12 : decode cX10_handOf 12 = .ok (.iload_n 3, 1) := by decide +kernel
theorem dX10_handOf_13 : decode cX10_handOf 13 = .ok (.iadd, 1) := by decide +kernel
theorem dX10_handOf_14 : decode cX10_handOf 14 = .ok (.iaload, 1) := by decide +kernel
theorem dX10_handOf_15 : decode cX10_handOf 15 = .ok (.ireturn, 1) := by decide +kernel
theorem dX10_shapes_0 : decode cX10_shapes 0 = .ok (.aload_n 0, 1) := by decide +kernel
theorem dX10_shapes_1 : decode cX10_shapes 1 = .ok (.iload_n 1, 1) := by decide +kernel
theorem dX10_shapes_2 : decode cX10_shapes 2 = .ok (.invokevirtual 322, 3) := by decide +kernel
theorem dX10_shapes_5 : decode cX10_shapes 5 = .ok (.bipush 24, 2) := by decide +kernel
theorem dX10_shapes_7 : decode cX10_shapes 7 = .ok (.aload_n 0, 1) := by decide +kernel
theorem dX10_shapes_8 : decode cX10_shapes 8 = .ok (.getfield 246, 3) := by decide +kernel
theorem dX10_shapes_11 : decode cX10_shapes 11 = .ok (.imul, 1) := by decide +kernel
theorem dX10_shapes_12 : decode cX10_shapes 12 = .ok (.istore_n 2, 1) := by decide +kernel
theorem dX10_shapes_13 : decode cX10_shapes 13 = .ok (.iload_n 2, 1) := by decide +kernel
theorem dX10_shapes_14 : decode cX10_shapes 14 = .ok (.bipush 24, 2) := by decide +kernel
theorem dX10_shapes_16 : decode cX10_shapes 16 = .ok (.aload_n 0, 1) := by decide +kernel
theorem dX10_shapes_17 : decode cX10_shapes 17 = .ok (.getfield 246, 3) := by decide +kernel
theorem dX10_shapes_20 : decode cX10_shapes 20 = .ok (.imul, 1) := by decide +kernel
theorem dX10_shapes_21 : decode cX10_shapes 21 = .ok (.aload_n 0, 1) := by decide +kernel
theorem dX10_shapes_22 : decode cX10_shapes 22 = .ok (.getfield 80, 3) := by decide +kernel
theorem dX10_shapes_25 : decode cX10_shapes 25 = .ok (.aload_n 0, 1) := by decide +kernel
theorem dX10_shapes_26 : decode cX10_shapes 26 = .ok (.getfield 246, 3) := by decide +kernel
theorem dX10_shapes_29 : decode cX10_shapes 29 = .ok (.iaload, 1) := by decide +kernel
theorem dX10_shapes_30 : decode cX10_shapes 30 = .ok (.iadd, 1) := by decide +kernel
theorem dX10_shapes_31 : decode cX10_shapes 31 = .ok (.if_icmp .ge 15, 3) := by decide +kernel
theorem dX10_shapes_34 : decode cX10_shapes 34 = .ok (.aload_n 0, 1) := by decide +kernel
theorem dX10_shapes_35 : decode cX10_shapes 35 = .ok (.iload_n 1, 1) := by decide +kernel
theorem dX10_shapes_36 : decode cX10_shapes 36 = .ok (.iload_n 2, 1) := by decide +kernel
theorem dX10_shapes_37 : decode cX10_shapes 37 = .ok (.invokevirtual 325, 3) := by decide +kernel
theorem dX10_shapes_40 : decode cX10_shapes 40 = .ok (.iinc 2 1, 3) := by decide +kernel
theorem dX10_shapes_43 : decode cX10_shapes 43 = .ok (.goto (-30), 3) := by decide +kernel
theorem dX10_shapes_46 : decode cX10_shapes 46 = .ok (.iconst 0, 1) := by decide +kernel
theorem dX10_shapes_47 : decode cX10_shapes 47 = .ok (.istore_n 2, 1) := by decide +kernel
theorem dX10_shapes_48 : decode cX10_shapes 48 = .ok (.iload_n 2, 1) := by decide +kernel
theorem dX10_shapes_49 : decode cX10_shapes 49 = .ok (.aload_n 0, 1) := by decide +kernel
theorem dX10_shapes_50 : decode cX10_shapes 50 = .ok (.getfield 310, 3) := by decide +kernel
theorem dX10_shapes_53 : decode cX10_shapes 53 = .ok (.if_icmp .ge 101, 3) := by decide +kernel
theorem dX10_shapes_56 : decode cX10_shapes 56 = .ok (.iconst 0, 1) := by decide +kernel
theorem dX10_shapes_57 : decode cX10_shapes 57 = .ok (.istore_n 3, 1) := by decide +kernel
theorem dX10_shapes_58 : decode cX10_shapes 58 = .ok (.iload_n 3, 1) := by decide +kernel
theorem dX10_shapes_59 : decode cX10_shapes 59 = .ok (.iconst 3, 1) := by decide +kernel
theorem dX10_shapes_60 : decode cX10_shapes 60 = .ok (.if_icmp .ge 88, 3) := by decide +kernel
theorem dX10_shapes_63 : decode cX10_shapes 63 = .ok (.aload_n 0, 1) := by decide +kernel
theorem dX10_shapes_64 : decode cX10_shapes 64 = .ok (.getfield 180, 3) := by decide +kernel
theorem dX10_shapes_67 : decode cX10_shapes 67 = .ok (.iconst 3, 1) := by decide +kernel
theorem dX10_shapes_68 : decode cX10_shapes 68 = .ok (.iload_n 2, 1) := by decide +kernel
theorem dX10_shapes_69 : decode cX10_shapes 69 = .ok (.imul, 1) := by decide +kernel
theorem dX10_shapes_70 : decode cX10_shapes 70 = .ok (.iload_n 3, 1) := by decide +kernel
theorem dX10_shapes_71 : decode cX10_shapes 71 = .ok (.iadd, 1) := by decide +kernel
theorem dX10_shapes_72 : decode cX10_shapes 72 = .ok (.aload_n 0, 1) := by decide +kernel
theorem dX10_shapes_73 : decode cX10_shapes 73 = .ok (.iload_n 1, 1) := by decide +kernel
theorem dX10_shapes_74 : decode cX10_shapes 74 = .ok (.iload_n 2, 1) := by decide +kernel
theorem dX10_shapes_75 : decode cX10_shapes 75 = .ok (.iload_n 3, 1) := by decide +kernel
theorem dX10_shapes_76 : decode cX10_shapes 76 = .ok (.invokevirtual 328, 3) := by decide +kernel
theorem dX10_shapes_79 : decode cX10_shapes 79 = .ok (.ifCond .lt 13, 3) := by decide +kernel
theorem dX10_shapes_82 : decode cX10_shapes 82 = .ok (.aload_n 0, 1) := by decide +kernel
theorem dX10_shapes_83 : decode cX10_shapes 83 = .ok (.iload_n 1, 1) := by decide +kernel
theorem dX10_shapes_84 : decode cX10_shapes 84 = .ok (.iload_n 2, 1) := by decide +kernel
theorem dX10_shapes_85 : decode cX10_shapes 85 = .ok (.iload_n 3, 1) := by decide +kernel
theorem dX10_shapes_86 : decode cX10_shapes 86 = .ok (.invokevirtual 328, 3) := by decide +kernel
theorem dX10_shapes_89 : decode cX10_shapes 89 = .ok (.goto 52, 3) := by decide +kernel
theorem dX10_shapes_92 : decode cX10_shapes 92 = .ok (.iload_n 3, 1) := by decide +kernel
theorem dX10_shapes_93 : decode cX10_shapes 93 = .ok (.iconst 1, 1) := by decide +kernel
theorem dX10_shapes_94 : decode cX10_shapes 94 = .ok (.if_icmp .ne 37, 3) := by decide +kernel
theorem dX10_shapes_97 : decode cX10_shapes 97 = .ok (.aload_n 0, 1) := by decide +kernel
theorem dX10_shapes_98 : decode cX10_shapes 98 = .ok (.getfield 180, 3) := by decide +kernel
theorem dX10_shapes_101 : decode cX10_shapes 101 = .ok (.iconst 3, 1) := by decide +kernel
theorem dX10_shapes_102 : decode cX10_shapes 102 = .ok (.iload_n 2, 1) := by decide +kernel
theorem dX10_shapes_103 : decode cX10_shapes 103 = .ok (.imul, 1) := by decide +kernel
theorem dX10_shapes_104 : decode cX10_shapes 104 = .ok (.iconst 1, 1) := by decide +kernel
theorem dX10_shapes_105 : decode cX10_shapes 105 = .ok (.iadd, 1) := by decide +kernel
theorem dX10_shapes_106 : decode cX10_shapes 106 = .ok (.iaload, 1) := by decide +kernel
theorem dX10_shapes_107 : decode cX10_shapes 107 = .ok (.aload_n 0, 1) := by decide +kernel
theorem dX10_shapes_108 : decode cX10_shapes 108 = .ok (.getfield 71, 3) := by decide +kernel
theorem dX10_shapes_111 : decode cX10_shapes 111 = .ok (.aload_n 0, 1) := by decide +kernel
theorem dX10_shapes_112 : decode cX10_shapes 112 = .ok (.getfield 246, 3) := by decide +kernel
theorem dX10_shapes_115 : decode cX10_shapes 115 = .ok (.iaload, 1) := by decide +kernel
theorem dX10_shapes_116 : decode cX10_shapes 116 = .ok (.aload_n 0, 1) := by decide +kernel
theorem dX10_shapes_117 : decode cX10_shapes 117 = .ok (.getfield 74, 3) := by decide +kernel
theorem dX10_shapes_120 : decode cX10_shapes 120 = .ok (.aload_n 0, 1) := by decide +kernel
theorem dX10_shapes_121 : decode cX10_shapes 121 = .ok (.getfield 246, 3) := by decide +kernel
theorem dX10_shapes_124 : decode cX10_shapes 124 = .ok (.iaload, 1) := by decide +kernel
theorem dX10_shapes_125 : decode cX10_shapes 125 = .ok (.invokestatic 319, 3) := by decide +kernel
theorem dX10_shapes_128 : decode cX10_shapes 128 = .ok (.goto 13, 3) := by decide +kernel
theorem dX10_shapes_131 : decode cX10_shapes 131 = .ok (.aload_n 0, 1) := by decide +kernel
theorem dX10_shapes_132 : decode cX10_shapes 132 = .ok (.getfield 180, 3) := by decide +kernel
theorem dX10_shapes_135 : decode cX10_shapes 135 = .ok (.iconst 3, 1) := by decide +kernel
theorem dX10_shapes_136 : decode cX10_shapes 136 = .ok (.iload_n 2, 1) := by decide +kernel
theorem dX10_shapes_137 : decode cX10_shapes 137 = .ok (.imul, 1) := by decide +kernel
theorem dX10_shapes_138 : decode cX10_shapes 138 = .ok (.iload_n 3, 1) := by decide +kernel
theorem dX10_shapes_139 : decode cX10_shapes 139 = .ok (.iadd, 1) := by decide +kernel
theorem dX10_shapes_140 : decode cX10_shapes 140 = .ok (.iaload, 1) := by decide +kernel
theorem dX10_shapes_141 : decode cX10_shapes 141 = .ok (.iastore, 1) := by decide +kernel
theorem dX10_shapes_142 : decode cX10_shapes 142 = .ok (.iinc 3 1, 3) := by decide +kernel
theorem dX10_shapes_145 : decode cX10_shapes 145 = .ok (.goto (-87), 3) := by decide +kernel
theorem dX10_shapes_148 : decode cX10_shapes 148 = .ok (.iinc 2 1, 3) := by decide +kernel
theorem dX10_shapes_151 : decode cX10_shapes 151 = .ok (.goto (-103), 3) := by decide +kernel
theorem dX10_shapes_154 : decode cX10_shapes 154 = .ok (.iconst 1, 1) := by decide +kernel
theorem dX10_shapes_155 : decode cX10_shapes 155 = .ok (.istore_n 2, 1) := by decide +kernel
theorem dX10_shapes_156 : decode cX10_shapes 156 = .ok (.iload_n 2, 1) := by decide +kernel
theorem dX10_shapes_157 : decode cX10_shapes 157 = .ok (.aload_n 0, 1) := by decide +kernel
theorem dX10_shapes_158 : decode cX10_shapes 158 = .ok (.getfield 310, 3) := by decide +kernel
theorem dX10_shapes_161 : decode cX10_shapes 161 = .ok (.if_icmp .ge 18, 3) := by decide +kernel
theorem dX10_shapes_164 : decode cX10_shapes 164 = .ok (.aload_n 0, 1) := by decide +kernel
theorem dX10_shapes_165 : decode cX10_shapes 165 = .ok (.iload_n 1, 1) := by decide +kernel
theorem dX10_shapes_166 : decode cX10_shapes 166 = .ok (.iload_n 2, 1) := by decide +kernel
theorem dX10_shapes_167 : decode cX10_shapes 167 = .ok (.iload_n 2, 1) := by decide +kernel
theorem dX10_shapes_168 : decode cX10_shapes 168 = .ok (.iconst 1, 1) := by decide +kernel
theorem dX10_shapes_169 : decode cX10_shapes 169 = .ok (.isub, 1) := by decide +kernel
theorem dX10_shapes_170 : decode cX10_shapes 170 = .ok (.invokevirtual 331, 3) := by decide +kernel
theorem dX10_shapes_173 : decode cX10_shapes 173 = .ok (.iinc 2 1, 3) := by decide +kernel
theorem dX10_shapes_176 : decode cX10_shapes 176 = .ok (.goto (-20), 3) := by decide +kernel
theorem dX10_shapes_179 : decode cX10_shapes 179 = .ok (.aload_n 0, 1) := by decide +kernel
theorem dX10_shapes_180 : decode cX10_shapes 180 = .ok (.getfield 310, 3) := by decide +kernel
theorem dX10_shapes_183 : decode cX10_shapes 183 = .ok (.iconst 2, 1) := by decide +kernel
theorem dX10_shapes_184 : decode cX10_shapes 184 = .ok (.isub, 1) := by decide +kernel
theorem dX10_shapes_185 : decode cX10_shapes 185 = .ok (.istore_n 2, 1) := by decide +kernel
theorem dX10_shapes_186 : decode cX10_shapes 186 = .ok (.iload_n 2, 1) := by decide +kernel
theorem dX10_shapes_187 : decode cX10_shapes 187 = .ok (.ifCond .lt 18, 3) := by decide +kernel
theorem dX10_shapes_190 : decode cX10_shapes 190 = .ok (.aload_n 0, 1) := by decide +kernel
theorem dX10_shapes_191 : decode cX10_shapes 191 = .ok (.iload_n 1, 1) := by decide +kernel
theorem dX10_shapes_192 : decode cX10_shapes 192 = .ok (.iload_n 2, 1) := by decide +kernel
theorem dX10_shapes_193 : decode cX10_shapes 193 = .ok (.iload_n 2, 1) := by decide +kernel
theorem dX10_shapes_194 : decode cX10_shapes 194 = .ok (.iconst 1, 1) := by decide +kernel
theorem dX10_shapes_195 : decode cX10_shapes 195 = .ok (.iadd, 1) := by decide +kernel
theorem dX10_shapes_196 : decode cX10_shapes 196 = .ok (.invokevirtual 331, 3) := by decide +kernel
theorem dX10_shapes_199 : decode cX10_shapes 199 = .ok (.iinc 2 (-1), 3) := by decide +kernel
theorem dX10_shapes_202 : decode cX10_shapes 202 = .ok (.goto (-16), 3) := by decide +kernel
theorem dX10_shapes_205 : decode cX10_shapes 205 = .ok (.return_, 1) := by decide +kernel
theorem dX10_nears_0 : decode cX10_nears 0 = .ok (.aload_n 0, 1) := by decide +kernel
theorem dX10_nears_1 : decode cX10_nears 1 = .ok (.iload_n 1, 1) := by decide +kernel
theorem dX10_nears_2 : decode cX10_nears 2 = .ok (.iload_n 2, 1) := by decide +kernel
theorem dX10_nears_3 : decode cX10_nears 3 = .ok (.iconst 1, 1) := by decide +kernel
theorem dX10_nears_4 : decode cX10_nears 4 = .ok (.invokevirtual 328, 3) := by decide +kernel
theorem dX10_nears_7 : decode cX10_nears 7 = .ok (.ifCond .ge 62, 3) := by decide +kernel
theorem dX10_nears_10 : decode cX10_nears 10 = .ok (.aload_n 0, 1) := by decide +kernel
theorem dX10_nears_11 : decode cX10_nears 11 = .ok (.getfield 180, 3) := by decide +kernel
theorem dX10_nears_14 : decode cX10_nears 14 = .ok (.iconst 3, 1) := by decide +kernel
theorem dX10_nears_15 : decode cX10_nears 15 = .ok (.iload_n 3, 1) := by decide +kernel
theorem dX10_nears_16 : decode cX10_nears 16 = .ok (.imul, 1) := by decide +kernel
theorem dX10_nears_17 : decode cX10_nears 17 = .ok (.iconst 1, 1) := by decide +kernel
theorem dX10_nears_18 : decode cX10_nears 18 = .ok (.iadd, 1) := by decide +kernel
theorem dX10_nears_19 : decode cX10_nears 19 = .ok (.iaload, 1) := by decide +kernel
theorem dX10_nears_20 : decode cX10_nears 20 = .ok (.istore 4, 2) := by decide +kernel
theorem dX10_nears_22 : decode cX10_nears 22 = .ok (.aload_n 0, 1) := by decide +kernel
theorem dX10_nears_23 : decode cX10_nears 23 = .ok (.getfield 180, 3) := by decide +kernel
theorem dX10_nears_26 : decode cX10_nears 26 = .ok (.iconst 3, 1) := by decide +kernel
theorem dX10_nears_27 : decode cX10_nears 27 = .ok (.iload_n 2, 1) := by decide +kernel
theorem dX10_nears_28 : decode cX10_nears 28 = .ok (.imul, 1) := by decide +kernel
theorem dX10_nears_29 : decode cX10_nears 29 = .ok (.iconst 1, 1) := by decide +kernel
theorem dX10_nears_30 : decode cX10_nears 30 = .ok (.iadd, 1) := by decide +kernel
theorem dX10_nears_31 : decode cX10_nears 31 = .ok (.aload_n 0, 1) := by decide +kernel
theorem dX10_nears_32 : decode cX10_nears 32 = .ok (.getfield 180, 3) := by decide +kernel
theorem dX10_nears_35 : decode cX10_nears 35 = .ok (.iconst 3, 1) := by decide +kernel
theorem dX10_nears_36 : decode cX10_nears 36 = .ok (.iload_n 2, 1) := by decide +kernel
theorem dX10_nears_37 : decode cX10_nears 37 = .ok (.imul, 1) := by decide +kernel
theorem dX10_nears_38 : decode cX10_nears 38 = .ok (.iconst 1, 1) := by decide +kernel
theorem dX10_nears_39 : decode cX10_nears 39 = .ok (.iadd, 1) := by decide +kernel
theorem dX10_nears_40 : decode cX10_nears 40 = .ok (.iaload, 1) := by decide +kernel
theorem dX10_nears_41 : decode cX10_nears 41 = .ok (.iload 4, 2) := by decide +kernel
theorem dX10_nears_43 : decode cX10_nears 43 = .ok (.aload_n 0, 1) := by decide +kernel
theorem dX10_nears_44 : decode cX10_nears 44 = .ok (.getfield 77, 3) := by decide +kernel
theorem dX10_nears_47 : decode cX10_nears 47 = .ok (.aload_n 0, 1) := by decide +kernel
theorem dX10_nears_48 : decode cX10_nears 48 = .ok (.getfield 246, 3) := by decide +kernel
theorem dX10_nears_51 : decode cX10_nears 51 = .ok (.iaload, 1) := by decide +kernel
theorem dX10_nears_52 : decode cX10_nears 52 = .ok (.isub, 1) := by decide +kernel
theorem dX10_nears_53 : decode cX10_nears 53 = .ok (.iload 4, 2) := by decide +kernel
theorem dX10_nears_55 : decode cX10_nears 55 = .ok (.aload_n 0, 1) := by decide +kernel
theorem dX10_nears_56 : decode cX10_nears 56 = .ok (.getfield 77, 3) := by decide +kernel
theorem dX10_nears_59 : decode cX10_nears 59 = .ok (.aload_n 0, 1) := by decide +kernel
theorem dX10_nears_60 : decode cX10_nears 60 = .ok (.getfield 246, 3) := by decide +kernel
theorem dX10_nears_63 : decode cX10_nears 63 = .ok (.iaload, 1) := by decide +kernel
theorem dX10_nears_64 : decode cX10_nears 64 = .ok (.iadd, 1) := by decide +kernel
theorem dX10_nears_65 : decode cX10_nears 65 = .ok (.invokestatic 319, 3) := by decide +kernel
theorem dX10_nears_68 : decode cX10_nears 68 = .ok (.iastore, 1) := by decide +kernel
theorem dX10_nears_69 : decode cX10_nears 69 = .ok (.return_, 1) := by decide +kernel
theorem dX10_told_0 : decode cX10_told 0 = .ok (.iconst 0, 1) := by decide +kernel
theorem dX10_told_1 : decode cX10_told 1 = .ok (.istore_n 2, 1) := by decide +kernel
theorem dX10_told_2 : decode cX10_told 2 = .ok (.iconst 0, 1) := by decide +kernel
theorem dX10_told_3 : decode cX10_told 3 = .ok (.istore_n 3, 1) := by decide +kernel
theorem dX10_told_4 : decode cX10_told 4 = .ok (.iload_n 3, 1) := by decide +kernel
theorem dX10_told_5 : decode cX10_told 5 = .ok (.iload_n 1, 1) := by decide +kernel
theorem dX10_told_6 : decode cX10_told 6 = .ok (.if_icmp .ge 20, 3) := by decide +kernel
theorem dX10_told_9 : decode cX10_told 9 = .ok (.iload_n 2, 1) := by decide +kernel
theorem dX10_told_10 : decode cX10_told 10 = .ok (.aload_n 0, 1) := by decide +kernel
theorem dX10_told_11 : decode cX10_told 11 = .ok (.getfield 180, 3) := by decide +kernel
theorem dX10_told_14 : decode cX10_told 14 = .ok (.iconst 3, 1) := by decide +kernel
theorem dX10_told_15 : decode cX10_told 15 = .ok (.iload_n 3, 1) := by decide +kernel
theorem dX10_told_16 : decode cX10_told 16 = .ok (.imul, 1) := by decide +kernel
theorem dX10_told_17 : decode cX10_told 17 = .ok (.iaload, 1) := by decide +kernel
theorem dX10_told_18 : decode cX10_told 18 = .ok (.iadd, 1) := by decide +kernel
theorem dX10_told_19 : decode cX10_told 19 = .ok (.istore_n 2, 1) := by decide +kernel
theorem dX10_told_20 : decode cX10_told 20 = .ok (.iinc 3 1, 3) := by decide +kernel
theorem dX10_told_23 : decode cX10_told 23 = .ok (.goto (-19), 3) := by decide +kernel
theorem dX10_told_26 : decode cX10_told 26 = .ok (.iload_n 2, 1) := by decide +kernel
theorem dX10_told_27 : decode cX10_told 27 = .ok (.aload_n 0, 1) := by decide +kernel
theorem dX10_told_28 : decode cX10_told 28 = .ok (.getfield 180, 3) := by decide +kernel
theorem dX10_told_31 : decode cX10_told 31 = .ok (.iconst 3, 1) := by decide +kernel
theorem dX10_told_32 : decode cX10_told 32 = .ok (.iload_n 1, 1) := by decide +kernel
theorem dX10_told_33 : decode cX10_told 33 = .ok (.imul, 1) := by decide +kernel
theorem dX10_told_34 : decode cX10_told 34 = .ok (.iaload, 1) := by decide +kernel
theorem dX10_told_35 : decode cX10_told 35 = .ok (.iadd, 1) := by decide +kernel
theorem dX10_told_36 : decode cX10_told 36 = .ok (.aload_n 0, 1) := by decide +kernel
theorem dX10_told_37 : decode cX10_told 37 = .ok (.getfield 147, 3) := by decide +kernel
theorem dX10_told_40 : decode cX10_told 40 = .ok (.imul, 1) := by decide +kernel
theorem dX10_told_41 : decode cX10_told 41 = .ok (.aload_n 0, 1) := by decide +kernel
theorem dX10_told_42 : decode cX10_told 42 = .ok (.getfield 150, 3) := by decide +kernel
theorem dX10_told_45 : decode cX10_told 45 = .ok (.idiv, 1) := by decide +kernel
theorem dX10_told_46 : decode cX10_told 46 = .ok (.iload_n 2, 1) := by decide +kernel
theorem dX10_told_47 : decode cX10_told 47 = .ok (.aload_n 0, 1) := by decide +kernel
theorem dX10_told_48 : decode cX10_told 48 = .ok (.getfield 147, 3) := by decide +kernel
theorem dX10_told_51 : decode cX10_told 51 = .ok (.imul, 1) := by decide +kernel
theorem dX10_told_52 : decode cX10_told 52 = .ok (.aload_n 0, 1) := by decide +kernel
theorem dX10_told_53 : decode cX10_told 53 = .ok (.getfield 150, 3) := by decide +kernel
theorem dX10_told_56 : decode cX10_told 56 = .ok (.idiv, 1) := by decide +kernel
theorem dX10_told_57 : decode cX10_told 57 = .ok (.isub, 1) := by decide +kernel
theorem dX10_told_58 : decode cX10_told 58 = .ok (.ireturn, 1) := by decide +kernel
theorem dX10_shape_0 : decode cX10_shape 0 = .ok (.aload_n 0, 1) := by decide +kernel
theorem dX10_shape_1 : decode cX10_shape 1 = .ok (.iload_n 1, 1) := by decide +kernel
theorem dX10_shape_2 : decode cX10_shape 2 = .ok (.ifCond .lt 28, 3) := by decide +kernel
theorem dX10_shape_5 : decode cX10_shape 5 = .ok (.iload_n 1, 1) := by decide +kernel
theorem dX10_shape_6 : decode cX10_shape 6 = .ok (.aload_n 0, 1) := by decide +kernel
theorem dX10_shape_7 : decode cX10_shape 7 = .ok (.aload_n 0, 1) := by decide +kernel
theorem dX10_shape_8 : decode cX10_shape 8 = .ok (.getfield 283, 3) := by decide +kernel
theorem dX10_shape_11 : decode cX10_shape 11 = .ok (.invokevirtual 293, 3) := by decide +kernel
theorem dX10_shape_14 : decode cX10_shape 14 = .ok (.if_icmp .ge 16, 3) := by decide +kernel
theorem dX10_shape_17 : decode cX10_shape 17 = .ok (.iload_n 2, 1) := by decide +kernel
theorem dX10_shape_18 : decode cX10_shape 18 = .ok (.ifCond .lt 12, 3) := by decide +kernel
theorem dX10_shape_21 : decode cX10_shape 21 = .ok (.iload_n 2, 1) := by decide +kernel
theorem dX10_shape_22 : decode cX10_shape 22 = .ok (.iconst 5, 1) := by decide +kernel
theorem dX10_shape_23 : decode cX10_shape 23 = .ok (.if_icmp .gt 7, 3) := by decide +kernel
theorem dX10_shape_26 : decode cX10_shape 26 = .ok (.iconst 0, 1) := by decide +kernel
theorem dX10_shape_27 : decode cX10_shape 27 = .ok (.goto 4, 3) := by decide +kernel
theorem dX10_shape_30 : decode cX10_shape 30 = .ok (.iconst 1, 1) := by decide +kernel
theorem dX10_shape_31 : decode cX10_shape 31 = .ok (.putfield 1, 3) := by decide +kernel
theorem dX10_shape_34 : decode cX10_shape 34 = .ok (.aload_n 0, 1) := by decide +kernel
theorem dX10_shape_35 : decode cX10_shape 35 = .ok (.getfield 1, 3) := by decide +kernel
theorem dX10_shape_38 : decode cX10_shape 38 = .ok (.ifCond .le 5, 3) := by decide +kernel
theorem dX10_shape_41 : decode cX10_shape 41 = .ok (.iconst 0, 1) := by decide +kernel
theorem dX10_shape_42 : decode cX10_shape 42 = .ok (.ireturn, 1) := by decide +kernel
theorem dX10_shape_43 : decode cX10_shape 43 = .ok (.aload_n 0, 1) := by decide +kernel
theorem dX10_shape_44 : decode cX10_shape 44 = .ok (.aload_n 0, 1) := by decide +kernel
theorem dX10_shape_45 : decode cX10_shape 45 = .ok (.getfield 283, 3) := by decide +kernel
theorem dX10_shape_48 : decode cX10_shape 48 = .ok (.invokevirtual 335, 3) := by decide +kernel
theorem dX10_shape_51 : decode cX10_shape 51 = .ok (.iload_n 2, 1) := by decide +kernel
theorem dX10_shape_52 : decode cX10_shape 52 = .ok (.ifCond .ne 11, 3) := by decide +kernel
theorem dX10_shape_55 : decode cX10_shape 55 = .ok (.aload_n 0, 1) := by decide +kernel
theorem dX10_shape_56 : decode cX10_shape 56 = .ok (.iload_n 1, 1) := by decide +kernel
theorem dX10_shape_57 : decode cX10_shape 57 = .ok (.invokevirtual 338, 3) := by decide +kernel
theorem dX10_shape_60 : decode cX10_shape 60 = .ok (.goto 75, 3) := by decide +kernel
theorem dX10_shape_63 : decode cX10_shape 63 = .ok (.iload_n 2, 1) := by decide +kernel
theorem dX10_shape_64 : decode cX10_shape 64 = .ok (.iconst 1, 1) := by decide +kernel
theorem dX10_shape_65 : decode cX10_shape 65 = .ok (.if_icmp .ne 16, 3) := by decide +kernel
theorem dX10_shape_68 : decode cX10_shape 68 = .ok (.aload_n 0, 1) := by decide +kernel
theorem dX10_shape_69 : decode cX10_shape 69 = .ok (.getfield 180, 3) := by decide +kernel
theorem dX10_shape_72 : decode cX10_shape 72 = .ok (.iconst 3, 1) := by decide +kernel
theorem dX10_shape_73 : decode cX10_shape 73 = .ok (.iload_n 1, 1) := by decide +kernel
theorem dX10_shape_74 : decode cX10_shape 74 = .ok (.imul, 1) := by decide +kernel
theorem dX10_shape_75 : decode cX10_shape 75 = .ok (.iconst 1, 1) := by decide +kernel
theorem dX10_shape_76 : decode cX10_shape 76 = .ok (.iadd, 1) := by decide +kernel
theorem dX10_shape_77 : decode cX10_shape 77 = .ok (.iaload, 1) := by decide +kernel
theorem dX10_shape_78 : decode cX10_shape 78 = .ok (.goto 57, 3) := by decide +kernel
theorem dX10_shape_81 : decode cX10_shape 81 = .ok (.iload_n 2, 1) := by decide +kernel
theorem dX10_shape_82 : decode cX10_shape 82 = .ok (.iconst 2, 1) := by decide +kernel
theorem dX10_shape_83 : decode cX10_shape 83 = .ok (.if_icmp .ne 16, 3) := by decide +kernel
theorem dX10_shape_86 : decode cX10_shape 86 = .ok (.aload_n 0, 1) := by decide +kernel
theorem dX10_shape_87 : decode cX10_shape 87 = .ok (.getfield 180, 3) := by decide +kernel
theorem dX10_shape_90 : decode cX10_shape 90 = .ok (.iconst 3, 1) := by decide +kernel
theorem dX10_shape_91 : decode cX10_shape 91 = .ok (.iload_n 1, 1) := by decide +kernel
theorem dX10_shape_92 : decode cX10_shape 92 = .ok (.imul, 1) := by decide +kernel
theorem dX10_shape_93 : decode cX10_shape 93 = .ok (.iconst 2, 1) := by decide +kernel
theorem dX10_shape_94 : decode cX10_shape 94 = .ok (.iadd, 1) := by decide +kernel
theorem dX10_shape_95 : decode cX10_shape 95 = .ok (.iaload, 1) := by decide +kernel
theorem dX10_shape_96 : decode cX10_shape 96 = .ok (.goto 39, 3) := by decide +kernel
theorem dX10_shape_99 : decode cX10_shape 99 = .ok (.iload_n 2, 1) := by decide +kernel
theorem dX10_shape_100 : decode cX10_shape 100 = .ok (.iconst 3, 1) := by decide +kernel
theorem dX10_shape_101 : decode cX10_shape 101 = .ok (.if_icmp .ne 12, 3) := by decide +kernel
theorem dX10_shape_104 : decode cX10_shape 104 = .ok (.aload_n 0, 1) := by decide +kernel
theorem dX10_shape_105 : decode cX10_shape 105 = .ok (.getfield 168, 3) := by decide +kernel
theorem dX10_shape_108 : decode cX10_shape 108 = .ok (.iload_n 1, 1) := by decide +kernel
theorem dX10_shape_109 : decode cX10_shape 109 = .ok (.iaload, 1) := by decide +kernel
theorem dX10_shape_110 : decode cX10_shape 110 = .ok (.goto 25, 3) := by decide +kernel
theorem dX10_shape_113 : decode cX10_shape 113 = .ok (.iload_n 2, 1) := by decide +kernel
theorem dX10_shape_114 : decode cX10_shape 114 = .ok (.iconst 4, 1) := by decide +kernel
theorem dX10_shape_115 : decode cX10_shape 115 = .ok (.if_icmp .ne 12, 3) := by decide +kernel
theorem dX10_shape_118 : decode cX10_shape 118 = .ok (.aload_n 0, 1) := by decide +kernel
theorem dX10_shape_119 : decode cX10_shape 119 = .ok (.getfield 171, 3) := by decide +kernel
theorem dX10_shape_122 : decode cX10_shape 122 = .ok (.iload_n 1, 1) := by decide +kernel
theorem dX10_shape_123 : decode cX10_shape 123 = .ok (.iaload, 1) := by decide +kernel
theorem dX10_shape_124 : decode cX10_shape 124 = .ok (.goto 11, 3) := by decide +kernel
theorem dX10_shape_127 : decode cX10_shape 127 = .ok (.aload_n 0, 1) := by decide +kernel
theorem dX10_shape_128 : decode cX10_shape 128 = .ok (.getfield 180, 3) := by decide +kernel
theorem dX10_shape_131 : decode cX10_shape 131 = .ok (.iconst 3, 1) := by decide +kernel
theorem dX10_shape_132 : decode cX10_shape 132 = .ok (.iload_n 1, 1) := by decide +kernel
theorem dX10_shape_133 : decode cX10_shape 133 = .ok (.imul, 1) := by decide +kernel
theorem dX10_shape_134 : decode cX10_shape 134 = .ok (.iaload, 1) := by decide +kernel
theorem dX10_shape_135 : decode cX10_shape 135 = .ok (.ireturn, 1) := by decide +kernel
theorem dX10_fit_0 : decode cX10_fit 0 = .ok (.aload_n 0, 1) := by decide +kernel
theorem dX10_fit_1 : decode cX10_fit 1 = .ok (.iconst 0, 1) := by decide +kernel
theorem dX10_fit_2 : decode cX10_fit 2 = .ok (.putfield 1, 3) := by decide +kernel
theorem dX10_fit_5 : decode cX10_fit 5 = .ok (.aload_n 0, 1) := by decide +kernel
theorem dX10_fit_6 : decode cX10_fit 6 = .ok (.aload_n 0, 1) := by decide +kernel
theorem dX10_fit_7 : decode cX10_fit 7 = .ok (.getfield 283, 3) := by decide +kernel
theorem dX10_fit_10 : decode cX10_fit 10 = .ok (.invokevirtual 335, 3) := by decide +kernel
theorem dX10_fit_13 : decode cX10_fit 13 = .ok (.iconst 1, 1) := by decide +kernel
theorem dX10_fit_14 : decode cX10_fit 14 = .ok (.istore_n 1, 1) := by decide +kernel
theorem dX10_fit_15 : decode cX10_fit 15 = .ok (.iconst 1, 1) := by decide +kernel
theorem dX10_fit_16 : decode cX10_fit 16 = .ok (.istore_n 2, 1) := by decide +kernel
theorem dX10_fit_17 : decode cX10_fit 17 = .ok (.iload_n 2, 1) := by decide +kernel
theorem dX10_fit_18 : decode cX10_fit 18 = .ok (.aload_n 0, 1) := by decide +kernel
theorem dX10_fit_19 : decode cX10_fit 19 = .ok (.getfield 310, 3) := by decide +kernel
theorem dX10_fit_22 : decode cX10_fit 22 = .ok (.if_icmp .ge 68, 3) := by decide +kernel
theorem dX10_fit_25 : decode cX10_fit 25 = .ok (.aload_n 0, 1) := by decide +kernel
theorem dX10_fit_26 : decode cX10_fit 26 = .ok (.getfield 180, 3) := by decide +kernel
theorem dX10_fit_29 : decode cX10_fit 29 = .ok (.iconst 3, 1) := by decide +kernel
theorem dX10_fit_30 : decode cX10_fit 30 = .ok (.iload_n 2, 1) := by decide +kernel
theorem dX10_fit_31 : decode cX10_fit 31 = .ok (.imul, 1) := by decide +kernel
theorem dX10_fit_32 : decode cX10_fit 32 = .ok (.iconst 1, 1) := by decide +kernel
theorem dX10_fit_33 : decode cX10_fit 33 = .ok (.iadd, 1) := by decide +kernel
theorem dX10_fit_34 : decode cX10_fit 34 = .ok (.iaload, 1) := by decide +kernel
theorem dX10_fit_35 : decode cX10_fit 35 = .ok (.aload_n 0, 1) := by decide +kernel
theorem dX10_fit_36 : decode cX10_fit 36 = .ok (.getfield 180, 3) := by decide +kernel
theorem dX10_fit_39 : decode cX10_fit 39 = .ok (.iconst 3, 1) := by decide +kernel
theorem dX10_fit_40 : decode cX10_fit 40 = .ok (.iload_n 2, 1) := by decide +kernel
theorem dX10_fit_41 : decode cX10_fit 41 = .ok (.imul, 1) := by decide +kernel
theorem dX10_fit_42 : decode cX10_fit 42 = .ok (.iconst 2, 1) := by decide +kernel
theorem dX10_fit_43 : decode cX10_fit 43 = .ok (.isub, 1) := by decide +kernel
theorem dX10_fit_44 : decode cX10_fit 44 = .ok (.iaload, 1) := by decide +kernel
theorem dX10_fit_45 : decode cX10_fit 45 = .ok (.isub, 1) := by decide +kernel
theorem dX10_fit_46 : decode cX10_fit 46 = .ok (.istore_n 3, 1) := by decide +kernel
theorem dX10_fit_47 : decode cX10_fit 47 = .ok (.iload_n 1, 1) := by decide +kernel
theorem dX10_fit_48 : decode cX10_fit 48 = .ok (.ifCond .eq 34, 3) := by decide +kernel
theorem dX10_fit_51 : decode cX10_fit 51 = .ok (.iload_n 3, 1) := by decide +kernel
theorem dX10_fit_52 : decode cX10_fit 52 = .ok (.aload_n 0, 1) := by decide +kernel
theorem dX10_fit_53 : decode cX10_fit 53 = .ok (.getfield 77, 3) := by decide +kernel
theorem dX10_fit_56 : decode cX10_fit 56 = .ok (.aload_n 0, 1) := by decide +kernel
theorem dX10_fit_57 : decode cX10_fit 57 = .ok (.getfield 246, 3) := by decide +kernel
theorem dX10_fit_60 : decode cX10_fit 60 = .ok (.iaload, 1) := by decide +kernel
theorem dX10_fit_61 : decode cX10_fit 61 = .ok (.if_icmp .gt 21, 3) := by decide +kernel
theorem dX10_fit_64 : decode cX10_fit 64 = .ok (.iload_n 3, 1) := by decide +kernel
theorem dX10_fit_65 : decode cX10_fit 65 = .ok (.aload_n 0, 1) := by decide +kernel
theorem dX10_fit_66 : decode cX10_fit 66 = .ok (.getfield 77, 3) := by decide +kernel
theorem dX10_fit_69 : decode cX10_fit 69 = .ok (.aload_n 0, 1) := by decide +kernel
theorem dX10_fit_70 : decode cX10_fit 70 = .ok (.getfield 246, 3) := by decide +kernel
theorem dX10_fit_73 : decode cX10_fit 73 = .ok (.iaload, 1) := by decide +kernel
theorem dX10_fit_74 : decode cX10_fit 74 = .ok (.ineg, 1) := by decide +kernel
theorem dX10_fit_75 : decode cX10_fit 75 = .ok (.if_icmp .lt 7, 3) := by decide +kernel
theorem dX10_fit_78 : decode cX10_fit 78 = .ok (.iconst 1, 1) := by decide +kernel
theorem dX10_fit_79 : decode cX10_fit 79 = .ok (.goto 4, 3) := by decide +kernel
theorem dX10_fit_82 : decode cX10_fit 82 = .ok (.iconst 0, 1) := by decide +kernel
theorem dX10_fit_83 : decode cX10_fit 83 = .ok (.istore_n 1, 1) := by decide +kernel
theorem dX10_fit_84 : decode cX10_fit 84 = .ok (.iinc 2 1, 3) := by decide +kernel
theorem dX10_fit_87 : decode cX10_fit 87 = .ok (.goto (-70), 3) := by decide +kernel
theorem dX10_fit_90 : decode cX10_fit 90 = .ok (.iload_n 1, 1) := by decide +kernel
theorem dX10_fit_91 : decode cX10_fit 91 = .ok (.ifCond .eq 7, 3) := by decide +kernel
theorem dX10_fit_94 : decode cX10_fit 94 = .ok (.iconst 1, 1) := by decide +kernel
theorem dX10_fit_95 : decode cX10_fit 95 = .ok (.goto 4, 3) := by decide +kernel
theorem dX10_fit_98 : decode cX10_fit 98 = .ok (.iconst 0, 1) := by decide +kernel
theorem dX10_fit_99 : decode cX10_fit 99 = .ok (.ireturn, 1) := by decide +kernel
theorem dX10_pause_0 : decode cX10_pause 0 = .ok (.aload_n 0, 1) := by decide +kernel
theorem dX10_pause_1 : decode cX10_pause 1 = .ok (.iconst 0, 1) := by decide +kernel
theorem dX10_pause_2 : decode cX10_pause 2 = .ok (.putfield 1, 3) := by decide +kernel
theorem dX10_pause_5 : decode cX10_pause 5 = .ok (.aload_n 0, 1) := by decide +kernel
theorem dX10_pause_6 : decode cX10_pause 6 = .ok (.aload_n 0, 1) := by decide +kernel
theorem dX10_pause_7 : decode cX10_pause 7 = .ok (.getfield 283, 3) := by decide +kernel
theorem dX10_pause_10 : decode cX10_pause 10 = .ok (.invokevirtual 303, 3) := by decide +kernel
theorem dX10_pause_13 : decode cX10_pause 13 = .ok (.iload_n 1, 1) := by decide +kernel
theorem dX10_pause_14 : decode cX10_pause 14 = .ok (.ifCond .lt 24, 3) := by decide +kernel
theorem dX10_pause_17 : decode cX10_pause 17 = .ok (.iload_n 1, 1) := by decide +kernel
theorem dX10_pause_18 : decode cX10_pause 18 = .ok (.aload_n 0, 1) := by decide +kernel
theorem dX10_pause_19 : decode cX10_pause 19 = .ok (.getfield 300, 3) := by decide +kernel
theorem dX10_pause_22 : decode cX10_pause 22 = .ok (.iconst 1, 1) := by decide +kernel
theorem dX10_pause_23 : decode cX10_pause 23 = .ok (.isub, 1) := by decide +kernel
theorem dX10_pause_24 : decode cX10_pause 24 = .ok (.if_icmp .ge 14, 3) := by decide +kernel
theorem dX10_pause_27 : decode cX10_pause 27 = .ok (.iload_n 2, 1) := by decide +kernel
theorem dX10_pause_28 : decode cX10_pause 28 = .ok (.ifCond .lt 10, 3) := by decide +kernel
theorem dX10_pause_31 : decode cX10_pause 31 = .ok (.iload_n 2, 1) := by decide +kernel
theorem dX10_pause_32 : decode cX10_pause 32 = .ok (.sipush 1000, 3) := by decide +kernel
theorem dX10_pause_35 : decode cX10_pause 35 = .ok (.if_icmp .le 5, 3) := by decide +kernel
theorem dX10_pause_38 : decode cX10_pause 38 = .ok (.iconst (-1), 1) := by decide +kernel
theorem dX10_pause_39 : decode cX10_pause 39 = .ok (.ireturn, 1) := by decide +kernel
theorem dX10_pause_40 : decode cX10_pause 40 = .ok (.iconst 0, 1) := by decide +kernel
theorem dX10_pause_41 : decode cX10_pause 41 = .ok (.istore_n 3, 1) := by decide +kernel
theorem dX10_pause_42 : decode cX10_pause 42 = .ok (.iconst 0, 1) := by decide +kernel
theorem dX10_pause_43 : decode cX10_pause 43 = .ok (.istore 4, 2) := by decide +kernel
theorem dX10_pause_45 : decode cX10_pause 45 = .ok (.iload 4, 2) := by decide +kernel
theorem dX10_pause_47 : decode cX10_pause 47 = .ok (.aload_n 0, 1) := by decide +kernel
theorem dX10_pause_48 : decode cX10_pause 48 = .ok (.getfield 300, 3) := by decide +kernel
theorem dX10_pause_51 : decode cX10_pause 51 = .ok (.iconst 1, 1) := by decide +kernel
theorem dX10_pause_52 : decode cX10_pause 52 = .ok (.isub, 1) := by decide +kernel
theorem dX10_pause_53 : decode cX10_pause 53 = .ok (.if_icmp .ge 19, 3) := by decide +kernel
theorem dX10_pause_56 : decode cX10_pause 56 = .ok (.iload_n 3, 1) := by decide +kernel
theorem dX10_pause_57 : decode cX10_pause 57 = .ok (.aload_n 0, 1) := by decide +kernel
theorem dX10_pause_58 : decode cX10_pause 58 = .ok (.getfield 162, 3) := by decide +kernel
theorem dX10_pause_61 : decode cX10_pause 61 = .ok (.iload 4, 2) := by decide +kernel
theorem dX10_pause_63 : decode cX10_pause 63 = .ok (.iaload, 1) := by decide +kernel
theorem dX10_pause_64 : decode cX10_pause 64 = .ok (.iadd, 1) := by decide +kernel
theorem dX10_pause_65 : decode cX10_pause 65 = .ok (.istore_n 3, 1) := by decide +kernel
theorem dX10_pause_66 : decode cX10_pause 66 = .ok (.iinc 4 1, 3) := by decide +kernel
theorem dX10_pause_69 : decode cX10_pause 69 = .ok (.goto (-24), 3) := by decide +kernel
theorem dX10_pause_72 : decode cX10_pause 72 = .ok (.iload_n 2, 1) := by decide +kernel
theorem dX10_pause_73 : decode cX10_pause 73 = .ok (.istore 4, 2) := by decide +kernel
theorem dX10_pause_75 : decode cX10_pause 75 = .ok (.iconst 0, 1) := by decide +kernel
theorem dX10_pause_76 : decode cX10_pause 76 = .ok (.istore 5, 2) := by decide +kernel
theorem dX10_pause_78 : decode cX10_pause 78 = .ok (.iload 5, 2) := by decide +kernel
theorem dX10_pause_80 : decode cX10_pause 80 = .ok (.aload_n 0, 1) := by decide +kernel
theorem dX10_pause_81 : decode cX10_pause 81 = .ok (.getfield 300, 3) := by decide +kernel
theorem dX10_pause_84 : decode cX10_pause 84 = .ok (.iconst 1, 1) := by decide +kernel
theorem dX10_pause_85 : decode cX10_pause 85 = .ok (.isub, 1) := by decide +kernel
theorem dX10_pause_86 : decode cX10_pause 86 = .ok (.if_icmp .ge 57, 3) := by decide +kernel
theorem dX10_pause_89 : decode cX10_pause 89 = .ok (.aload_n 0, 1) := by decide +kernel
theorem dX10_pause_90 : decode cX10_pause 90 = .ok (.getfield 183, 3) := by decide +kernel
theorem dX10_pause_93 : decode cX10_pause 93 = .ok (.iload 5, 2) := by decide +kernel
theorem dX10_pause_95 : decode cX10_pause 95 = .ok (.iload_n 2, 1) := by decide +kernel
theorem dX10_pause_96 : decode cX10_pause 96 = .ok (.aload_n 0, 1) := by decide +kernel
theorem dX10_pause_97 : decode cX10_pause 97 = .ok (.getfield 162, 3) := by decide +kernel
theorem dX10_pause_100 : decode cX10_pause 100 = .ok (.iload 5, 2) := by decide +kernel
theorem dX10_pause_102 : decode cX10_pause 102 = .ok (.iaload, 1) := by decide +kernel
theorem dX10_pause_103 : decode cX10_pause 103 = .ok (.imul, 1) := by decide +kernel
theorem dX10_pause_104 : decode cX10_pause 104 = .ok (.iload_n 3, 1) := by decide +kernel
theorem dX10_pause_105 : decode cX10_pause 105 = .ok (.idiv, 1) := by decide +kernel
theorem dX10_pause_106 : decode cX10_pause 106 = .ok (.iastore, 1) := by decide +kernel
theorem dX10_pause_107 : decode cX10_pause 107 = .ok (.aload_n 0, 1) := by decide +kernel
theorem dX10_pause_108 : decode cX10_pause 108 = .ok (.getfield 186, 3) := by decide +kernel
theorem dX10_pause_111 : decode cX10_pause 111 = .ok (.iload 5, 2) := by decide +kernel
theorem dX10_pause_113 : decode cX10_pause 113 = .ok (.iload_n 2, 1) := by decide +kernel
theorem dX10_pause_114 : decode cX10_pause 114 = .ok (.aload_n 0, 1) := by decide +kernel
theorem dX10_pause_115 : decode cX10_pause 115 = .ok (.getfield 162, 3) := by decide +kernel
theorem dX10_pause_118 : decode cX10_pause 118 = .ok (.iload 5, 2) := by decide +kernel
theorem dX10_pause_120 : decode cX10_pause 120 = .ok (.iaload, 1) := by decide +kernel
theorem dX10_pause_121 : decode cX10_pause 121 = .ok (.imul, 1) := by decide +kernel
theorem dX10_pause_122 : decode cX10_pause 122 = .ok (.iload_n 3, 1) := by decide +kernel
theorem dX10_pause_123 : decode cX10_pause 123 = .ok (.irem, 1) := by decide +kernel
theorem dX10_pause_124 : decode cX10_pause 124 = .ok (.iastore, 1) := by decide +kernel
theorem dX10_pause_125 : decode cX10_pause 125 = .ok (.iload 4, 2) := by decide +kernel
theorem dX10_pause_127 : decode cX10_pause 127 = .ok (.aload_n 0, 1) := by decide +kernel
theorem dX10_pause_128 : decode cX10_pause 128 = .ok (.getfield 183, 3) := by decide +kernel
theorem dX10_pause_131 : decode cX10_pause 131 = .ok (.iload 5, 2) := by decide +kernel
theorem dX10_pause_133 : decode cX10_pause 133 = .ok (.iaload, 1) := by decide +kernel
theorem dX10_pause_134 : decode cX10_pause 134 = .ok (.isub, 1) := by decide +kernel
theorem dX10_pause_135 : decode cX10_pause 135 = .ok (.istore 4, 2) := by decide +kernel
theorem dX10_pause_137 : decode cX10_pause 137 = .ok (.iinc 5 1, 3) := by decide +kernel
theorem dX10_pause_140 : decode cX10_pause 140 = .ok (.goto (-62), 3) := by decide +kernel
theorem dX10_pause_143 : decode cX10_pause 143 = .ok (.iload 4, 2) := by decide +kernel
theorem dX10_pause_145 : decode cX10_pause 145 = .ok (.ifCond .le 77, 3) := by decide +kernel
theorem dX10_pause_148 : decode cX10_pause 148 = .ok (.iconst 0, 1) := by decide +kernel
theorem dX10_pause_149 : decode cX10_pause 149 = .ok (.istore 5, 2) := by decide +kernel
theorem dX10_pause_151 : decode cX10_pause 151 = .ok (.iconst 1, 1) := by decide +kernel
theorem dX10_pause_152 : decode cX10_pause 152 = .ok (.istore 6, 2) := by decide +kernel
theorem dX10_pause_154 : decode cX10_pause 154 = .ok (.iload 6, 2) := by decide +kernel
theorem dX10_pause_156 : decode cX10_pause 156 = .ok (.aload_n 0, 1) := by decide +kernel
theorem dX10_pause_157 : decode cX10_pause 157 = .ok (.getfield 300, 3) := by decide +kernel
theorem dX10_pause_160 : decode cX10_pause 160 = .ok (.iconst 1, 1) := by decide +kernel
theorem dX10_pause_161 : decode cX10_pause 161 = .ok (.isub, 1) := by decide +kernel
theorem dX10_pause_162 : decode cX10_pause 162 = .ok (.if_icmp .ge 35, 3) := by decide +kernel
theorem dX10_pause_165 : decode cX10_pause 165 = .ok (.aload_n 0, 1) := by decide +kernel
theorem dX10_pause_166 : decode cX10_pause 166 = .ok (.getfield 186, 3) := by decide +kernel
theorem dX10_pause_169 : decode cX10_pause 169 = .ok (.iload 6, 2) := by decide +kernel
theorem dX10_pause_171 : decode cX10_pause 171 = .ok (.iaload, 1) := by decide +kernel
theorem dX10_pause_172 : decode cX10_pause 172 = .ok (.aload_n 0, 1) := by decide +kernel
theorem dX10_pause_173 : decode cX10_pause 173 = .ok (.getfield 186, 3) := by decide +kernel
theorem dX10_pause_176 : decode cX10_pause 176 = .ok (.iload 5, 2) := by decide +kernel
theorem dX10_pause_178 : decode cX10_pause 178 = .ok (.iaload, 1) := by decide +kernel
theorem dX10_pause_179 : decode cX10_pause 179 = .ok (.if_icmp .le 8, 3) := by decide +kernel
theorem dX10_pause_182 : decode cX10_pause 182 = .ok (.iload 6, 2) := by decide +kernel
theorem dX10_pause_184 : decode cX10_pause 184 = .ok (.goto 5, 3) := by decide +kernel
theorem dX10_pause_187 : decode cX10_pause 187 = .ok (.iload 5, 2) := by decide +kernel
theorem dX10_pause_189 : decode cX10_pause 189 = .ok (.istore 5, 2) := by decide +kernel
theorem dX10_pause_191 : decode cX10_pause 191 = .ok (.iinc 6 1, 3) := by decide +kernel
theorem dX10_pause_194 : decode cX10_pause 194 = .ok (.goto (-40), 3) := by decide +kernel
theorem dX10_pause_197 : decode cX10_pause 197 = .ok (.aload_n 0, 1) := by decide +kernel
theorem dX10_pause_198 : decode cX10_pause 198 = .ok (.getfield 183, 3) := by decide +kernel
theorem dX10_pause_201 : decode cX10_pause 201 = .ok (.iload 5, 2) := by decide +kernel
theorem dX10_pause_203 : decode cX10_pause 203 = .ok (.dup2, 1) := by decide +kernel
theorem dX10_pause_204 : decode cX10_pause 204 = .ok (.iaload, 1) := by decide +kernel
theorem dX10_pause_205 : decode cX10_pause 205 = .ok (.iconst 1, 1) := by decide +kernel
theorem dX10_pause_206 : decode cX10_pause 206 = .ok (.iadd, 1) := by decide +kernel
theorem dX10_pause_207 : decode cX10_pause 207 = .ok (.iastore, 1) := by decide +kernel
theorem dX10_pause_208 : decode cX10_pause 208 = .ok (.aload_n 0, 1) := by decide +kernel
theorem dX10_pause_209 : decode cX10_pause 209 = .ok (.getfield 186, 3) := by decide +kernel
theorem dX10_pause_212 : decode cX10_pause 212 = .ok (.iload 5, 2) := by decide +kernel
theorem dX10_pause_214 : decode cX10_pause 214 = .ok (.iconst (-1), 1) := by decide +kernel
theorem dX10_pause_215 : decode cX10_pause 215 = .ok (.iastore, 1) := by decide +kernel
theorem dX10_pause_216 : decode cX10_pause 216 = .ok (.iinc 4 (-1), 3) := by decide +kernel
theorem dX10_pause_219 : decode cX10_pause 219 = .ok (.goto (-76), 3) := by decide +kernel
theorem dX10_pause_222 : decode cX10_pause 222 = .ok (.aload_n 0, 1) := by decide +kernel
theorem dX10_pause_223 : decode cX10_pause 223 = .ok (.getfield 183, 3) := by decide +kernel
theorem dX10_pause_226 : decode cX10_pause 226 = .ok (.iload_n 1, 1) := by decide +kernel
theorem dX10_pause_227 : decode cX10_pause 227 = .ok (.iaload, 1) := by decide +kernel
theorem dX10_pause_228 : decode cX10_pause 228 = .ok (.ireturn, 1) := by decide +kernel
theorem dX10_apart_0 : decode cX10_apart 0 = .ok (.aload_n 0, 1) := by decide +kernel
theorem dX10_apart_1 : decode cX10_apart 1 = .ok (.iconst 0, 1) := by decide +kernel
theorem dX10_apart_2 : decode cX10_apart 2 = .ok (.putfield 1, 3) := by decide +kernel
theorem dX10_apart_5 : decode cX10_apart 5 = .ok (.aload_n 0, 1) := by decide +kernel
theorem dX10_apart_6 : decode cX10_apart 6 = .ok (.iload_n 1, 1) := by decide +kernel
theorem dX10_apart_7 : decode cX10_apart 7 = .ok (.invokevirtual 290, 3) := by decide +kernel
theorem dX10_apart_10 : decode cX10_apart 10 = .ok (.ifCond .eq 11, 3) := by decide +kernel
theorem dX10_apart_13 : decode cX10_apart 13 = .ok (.aload_n 0, 1) := by decide +kernel
theorem dX10_apart_14 : decode cX10_apart 14 = .ok (.iload_n 2, 1) := by decide +kernel
theorem dX10_apart_15 : decode cX10_apart 15 = .ok (.invokevirtual 290, 3) := by decide +kernel
theorem dX10_apart_18 : decode cX10_apart 18 = .ok (.ifCond .ne 6, 3) := by decide +kernel
theorem dX10_apart_21 : decode cX10_apart 21 = .ok (.bipush (-2), 2) := by decide +kernel
theorem dX10_apart_23 : decode cX10_apart 23 = .ok (.ireturn, 1) := by decide +kernel
theorem dX10_apart_24 : decode cX10_apart 24 = .ok (.aload_n 0, 1) := by decide +kernel
theorem dX10_apart_25 : decode cX10_apart 25 = .ok (.iload_n 1, 1) := by decide +kernel
theorem dX10_apart_26 : decode cX10_apart 26 = .ok (.invokevirtual 335, 3) := by decide +kernel
theorem dX10_apart_29 : decode cX10_apart 29 = .ok (.aload_n 0, 1) := by decide +kernel
theorem dX10_apart_30 : decode cX10_apart 30 = .ok (.aload_n 0, 1) := by decide +kernel
theorem dX10_apart_31 : decode cX10_apart 31 = .ok (.getfield 310, 3) := by decide +kernel
theorem dX10_apart_34 : decode cX10_apart 34 = .ok (.putfield 341, 3) := by decide +kernel
theorem dX10_apart_37 : decode cX10_apart 37 = .ok (.iconst 0, 1) := by decide +kernel
theorem dX10_apart_38 : decode cX10_apart 38 = .ok (.istore_n 3, 1) := by decide +kernel
theorem dX10_apart_39 : decode cX10_apart 39 = .ok (.iload_n 3, 1) := by decide +kernel
theorem dX10_apart_40 : decode cX10_apart 40 = .ok (.aload_n 0, 1) := by decide +kernel
theorem dX10_apart_41 : decode cX10_apart 41 = .ok (.getfield 310, 3) := by decide +kernel
theorem dX10_apart_44 : decode cX10_apart 44 = .ok (.if_icmp .ge 86, 3) := by decide +kernel
theorem dX10_apart_47 : decode cX10_apart 47 = .ok (.aload_n 0, 1) := by decide +kernel
theorem dX10_apart_48 : decode cX10_apart 48 = .ok (.getfield 189, 3) := by decide +kernel
theorem dX10_apart_51 : decode cX10_apart 51 = .ok (.iconst 4, 1) := by decide +kernel
theorem dX10_apart_52 : decode cX10_apart 52 = .ok (.iload_n 3, 1) := by decide +kernel
theorem dX10_apart_53 : decode cX10_apart 53 = .ok (.imul, 1) := by decide +kernel
theorem dX10_apart_54 : decode cX10_apart 54 = .ok (.aload_n 0, 1) := by decide +kernel
theorem dX10_apart_55 : decode cX10_apart 55 = .ok (.iload_n 3, 1) := by decide +kernel
theorem dX10_apart_56 : decode cX10_apart 56 = .ok (.invokevirtual 338, 3) := by decide +kernel
theorem dX10_apart_59 : decode cX10_apart 59 = .ok (.iastore, 1) := by decide +kernel
theorem dX10_apart_60 : decode cX10_apart 60 = .ok (.aload_n 0, 1) := by decide +kernel
theorem dX10_apart_61 : decode cX10_apart 61 = .ok (.getfield 189, 3) := by decide +kernel
theorem dX10_apart_64 : decode cX10_apart 64 = .ok (.iconst 4, 1) := by decide +kernel
theorem dX10_apart_65 : decode cX10_apart 65 = .ok (.iload_n 3, 1) := by decide +kernel
theorem dX10_apart_66 : decode cX10_apart 66 = .ok (.imul, 1) := by decide +kernel
theorem dX10_apart_67 : decode cX10_apart 67 = .ok (.iconst 1, 1) := by decide +kernel
theorem dX10_apart_68 : decode cX10_apart 68 = .ok (.iadd, 1) := by decide +kernel
theorem dX10_apart_69 : decode cX10_apart 69 = .ok (.aload_n 0, 1) := by decide +kernel
theorem dX10_apart_70 : decode cX10_apart 70 = .ok (.getfield 180, 3) := by decide +kernel
theorem dX10_apart_73 : decode cX10_apart 73 = .ok (.iconst 3, 1) := by decide +kernel
theorem dX10_apart_74 : decode cX10_apart 74 = .ok (.iload_n 3, 1) := by decide +kernel
theorem dX10_apart_75 : decode cX10_apart 75 = .ok (.imul, 1) := by decide +kernel
theorem dX10_apart_76 : decode cX10_apart 76 = .ok (.iconst 1, 1) := by decide +kernel
theorem dX10_apart_77 : decode cX10_apart 77 = .ok (.iadd, 1) := by decide +kernel
theorem dX10_apart_78 : decode cX10_apart 78 = .ok (.iaload, 1) := by decide +kernel
theorem dX10_apart_79 : decode cX10_apart 79 = .ok (.iastore, 1) := by decide +kernel
theorem dX10_apart_80 : decode cX10_apart 80 = .ok (.aload_n 0, 1) := by decide +kernel
theorem dX10_apart_81 : decode cX10_apart 81 = .ok (.getfield 189, 3) := by decide +kernel
theorem dX10_apart_84 : decode cX10_apart 84 = .ok (.iconst 4, 1) := by decide +kernel
theorem dX10_apart_85 : decode cX10_apart 85 = .ok (.iload_n 3, 1) := by decide +kernel
theorem dX10_apart_86 : decode cX10_apart 86 = .ok (.imul, 1) := by decide +kernel
theorem dX10_apart_87 : decode cX10_apart 87 = .ok (.iconst 2, 1) := by decide +kernel
theorem dX10_apart_88 : decode cX10_apart 88 = .ok (.iadd, 1) := by decide +kernel
theorem dX10_apart_89 : decode cX10_apart 89 = .ok (.aload_n 0, 1) := by decide +kernel
theorem dX10_apart_90 : decode cX10_apart 90 = .ok (.getfield 180, 3) := by decide +kernel
theorem dX10_apart_93 : decode cX10_apart 93 = .ok (.iconst 3, 1) := by decide +kernel
theorem dX10_apart_94 : decode cX10_apart 94 = .ok (.iload_n 3, 1) := by decide +kernel
theorem dX10_apart_95 : decode cX10_apart 95 = .ok (.imul, 1) := by decide +kernel
theorem dX10_apart_96 : decode cX10_apart 96 = .ok (.iconst 2, 1) := by decide +kernel
theorem dX10_apart_97 : decode cX10_apart 97 = .ok (.iadd, 1) := by decide +kernel
theorem dX10_apart_98 : decode cX10_apart 98 = .ok (.iaload, 1) := by decide +kernel
theorem dX10_apart_99 : decode cX10_apart 99 = .ok (.iastore, 1) := by decide +kernel
theorem dX10_apart_100 : decode cX10_apart 100 = .ok (.aload_n 0, 1) := by decide +kernel
theorem dX10_apart_101 : decode cX10_apart 101 = .ok (.getfield 189, 3) := by decide +kernel
theorem dX10_apart_104 : decode cX10_apart 104 = .ok (.iconst 4, 1) := by decide +kernel
theorem dX10_apart_105 : decode cX10_apart 105 = .ok (.iload_n 3, 1) := by decide +kernel
theorem dX10_apart_106 : decode cX10_apart 106 = .ok (.imul, 1) := by decide +kernel
theorem dX10_apart_107 : decode cX10_apart 107 = .ok (.iconst 3, 1) := by decide +kernel
theorem dX10_apart_108 : decode cX10_apart 108 = .ok (.iadd, 1) := by decide +kernel
theorem dX10_apart_109 : decode cX10_apart 109 = .ok (.aload_n 0, 1) := by decide +kernel
theorem dX10_apart_110 : decode cX10_apart 110 = .ok (.getfield 177, 3) := by decide +kernel
theorem dX10_apart_113 : decode cX10_apart 113 = .ok (.iload_n 3, 1) := by decide +kernel
theorem dX10_apart_114 : decode cX10_apart 114 = .ok (.baload, 1) := by decide +kernel
theorem dX10_apart_115 : decode cX10_apart 115 = .ok (.ifCond .eq 7, 3) := by decide +kernel
theorem dX10_apart_118 : decode cX10_apart 118 = .ok (.iconst 1, 1) := by decide +kernel
theorem dX10_apart_119 : decode cX10_apart 119 = .ok (.goto 4, 3) := by decide +kernel
theorem dX10_apart_122 : decode cX10_apart 122 = .ok (.iconst 0, 1) := by decide +kernel
theorem dX10_apart_123 : decode cX10_apart 123 = .ok (.iastore, 1) := by decide +kernel
theorem dX10_apart_124 : decode cX10_apart 124 = .ok (.iinc 3 1, 3) := by decide +kernel
theorem dX10_apart_127 : decode cX10_apart 127 = .ok (.goto (-88), 3) := by decide +kernel
theorem dX10_apart_130 : decode cX10_apart 130 = .ok (.aload_n 0, 1) := by decide +kernel
theorem dX10_apart_131 : decode cX10_apart 131 = .ok (.iload_n 2, 1) := by decide +kernel
theorem dX10_apart_132 : decode cX10_apart 132 = .ok (.invokevirtual 335, 3) := by decide +kernel
theorem dX10_apart_135 : decode cX10_apart 135 = .ok (.iconst 0, 1) := by decide +kernel
theorem dX10_apart_136 : decode cX10_apart 136 = .ok (.istore_n 3, 1) := by decide +kernel
theorem dX10_apart_137 : decode cX10_apart 137 = .ok (.iload_n 3, 1) := by decide +kernel
theorem dX10_apart_138 : decode cX10_apart 138 = .ok (.aload_n 0, 1) := by decide +kernel
theorem dX10_apart_139 : decode cX10_apart 139 = .ok (.getfield 310, 3) := by decide +kernel
theorem dX10_apart_142 : decode cX10_apart 142 = .ok (.if_icmp .ge 25, 3) := by decide +kernel
theorem dX10_apart_145 : decode cX10_apart 145 = .ok (.iload_n 3, 1) := by decide +kernel
theorem dX10_apart_146 : decode cX10_apart 146 = .ok (.aload_n 0, 1) := by decide +kernel
theorem dX10_apart_147 : decode cX10_apart 147 = .ok (.getfield 341, 3) := by decide +kernel
theorem dX10_apart_150 : decode cX10_apart 150 = .ok (.if_icmp .ge 17, 3) := by decide +kernel
theorem dX10_apart_153 : decode cX10_apart 153 = .ok (.aload_n 0, 1) := by decide +kernel
theorem dX10_apart_154 : decode cX10_apart 154 = .ok (.iload_n 3, 1) := by decide +kernel
theorem dX10_apart_155 : decode cX10_apart 155 = .ok (.invokevirtual 344, 3) := by decide +kernel
theorem dX10_apart_158 : decode cX10_apart 158 = .ok (.ifCond .eq 9, 3) := by decide +kernel
theorem dX10_apart_161 : decode cX10_apart 161 = .ok (.iinc 3 1, 3) := by decide +kernel
theorem dX10_apart_164 : decode cX10_apart 164 = .ok (.goto (-27), 3) := by decide +kernel
theorem dX10_apart_167 : decode cX10_apart 167 = .ok (.iload_n 3, 1) := by decide +kernel
theorem dX10_apart_168 : decode cX10_apart 168 = .ok (.aload_n 0, 1) := by decide +kernel
theorem dX10_apart_169 : decode cX10_apart 169 = .ok (.getfield 310, 3) := by decide +kernel
theorem dX10_apart_172 : decode cX10_apart 172 = .ok (.if_icmp .ne 15, 3) := by decide +kernel
theorem dX10_apart_175 : decode cX10_apart 175 = .ok (.iload_n 3, 1) := by decide +kernel
theorem dX10_apart_176 : decode cX10_apart 176 = .ok (.aload_n 0, 1) := by decide +kernel
theorem dX10_apart_177 : decode cX10_apart 177 = .ok (.getfield 341, 3) := by decide +kernel
theorem dX10_apart_180 : decode cX10_apart 180 = .ok (.if_icmp .ne 7, 3) := by decide +kernel
theorem dX10_apart_183 : decode cX10_apart 183 = .ok (.iconst (-1), 1) := by decide +kernel
theorem dX10_apart_184 : decode cX10_apart 184 = .ok (.goto 4, 3) := by decide +kernel
theorem dX10_apart_187 : decode cX10_apart 187 = .ok (.iload_n 3, 1) := by decide +kernel
theorem dX10_apart_188 : decode cX10_apart 188 = .ok (.ireturn, 1) := by decide +kernel
theorem dX10_isAlike_0 : decode cX10_isAlike 0 = .ok (.aload_n 0, 1) := by decide +kernel
theorem dX10_isAlike_1 : decode cX10_isAlike 1 = .ok (.getfield 189, 3) := by decide +kernel
theorem dX10_isAlike_4 : decode cX10_isAlike 4 = .ok (.iconst 4, 1) := by decide +kernel
theorem dX10_isAlike_5 : decode cX10_isAlike 5 = .ok (.iload_n 1, 1) := by decide +kernel
theorem dX10_isAlike_6 : decode cX10_isAlike 6 = .ok (.imul, 1) := by decide +kernel
theorem dX10_isAlike_7 : decode cX10_isAlike 7 = .ok (.iaload, 1) := by decide +kernel
theorem dX10_isAlike_8 : decode cX10_isAlike 8 = .ok (.aload_n 0, 1) := by decide +kernel
theorem dX10_isAlike_9 : decode cX10_isAlike 9 = .ok (.iload_n 1, 1) := by decide +kernel
theorem dX10_isAlike_10 : decode cX10_isAlike 10 = .ok (.invokevirtual 338, 3) := by decide +kernel
theorem dX10_isAlike_13 : decode cX10_isAlike 13 = .ok (.if_icmp .ne 80, 3) := by decide +kernel
theorem dX10_isAlike_16 : decode cX10_isAlike 16 = .ok (.aload_n 0, 1) := by decide +kernel
theorem dX10_isAlike_17 : decode cX10_isAlike 17 = .ok (.getfield 189, 3) := by decide +kernel
theorem dX10_isAlike_20 : decode cX10_isAlike 20 = .ok (.iconst 4, 1) := by decide +kernel
theorem dX10_isAlike_21 : decode cX10_isAlike 21 = .ok (.iload_n 1, 1) := by decide +kernel
theorem dX10_isAlike_22 : decode cX10_isAlike 22 = .ok (.imul, 1) := by decide +kernel
theorem dX10_isAlike_23 : decode cX10_isAlike 23 = .ok (.iconst 1, 1) := by decide +kernel
theorem dX10_isAlike_24 : decode cX10_isAlike 24 = .ok (.iadd, 1) := by decide +kernel
theorem dX10_isAlike_25 : decode cX10_isAlike 25 = .ok (.iaload, 1) := by decide +kernel
theorem dX10_isAlike_26 : decode cX10_isAlike 26 = .ok (.aload_n 0, 1) := by decide +kernel
theorem dX10_isAlike_27 : decode cX10_isAlike 27 = .ok (.getfield 180, 3) := by decide +kernel
theorem dX10_isAlike_30 : decode cX10_isAlike 30 = .ok (.iconst 3, 1) := by decide +kernel
theorem dX10_isAlike_31 : decode cX10_isAlike 31 = .ok (.iload_n 1, 1) := by decide +kernel
theorem dX10_isAlike_32 : decode cX10_isAlike 32 = .ok (.imul, 1) := by decide +kernel
theorem dX10_isAlike_33 : decode cX10_isAlike 33 = .ok (.iconst 1, 1) := by decide +kernel
theorem dX10_isAlike_34 : decode cX10_isAlike 34 = .ok (.iadd, 1) := by decide +kernel
theorem dX10_isAlike_35 : decode cX10_isAlike 35 = .ok (.iaload, 1) := by decide +kernel
theorem dX10_isAlike_36 : decode cX10_isAlike 36 = .ok (.if_icmp .ne 57, 3) := by decide +kernel
theorem dX10_isAlike_39 : decode cX10_isAlike 39 = .ok (.aload_n 0, 1) := by decide +kernel
theorem dX10_isAlike_40 : decode cX10_isAlike 40 = .ok (.getfield 189, 3) := by decide +kernel
theorem dX10_isAlike_43 : decode cX10_isAlike 43 = .ok (.iconst 4, 1) := by decide +kernel
theorem dX10_isAlike_44 : decode cX10_isAlike 44 = .ok (.iload_n 1, 1) := by decide +kernel
theorem dX10_isAlike_45 : decode cX10_isAlike 45 = .ok (.imul, 1) := by decide +kernel
theorem dX10_isAlike_46 : decode cX10_isAlike 46 = .ok (.iconst 2, 1) := by decide +kernel
theorem dX10_isAlike_47 : decode cX10_isAlike 47 = .ok (.iadd, 1) := by decide +kernel
theorem dX10_isAlike_48 : decode cX10_isAlike 48 = .ok (.iaload, 1) := by decide +kernel
theorem dX10_isAlike_49 : decode cX10_isAlike 49 = .ok (.aload_n 0, 1) := by decide +kernel
theorem dX10_isAlike_50 : decode cX10_isAlike 50 = .ok (.getfield 180, 3) := by decide +kernel
theorem dX10_isAlike_53 : decode cX10_isAlike 53 = .ok (.iconst 3, 1) := by decide +kernel
theorem dX10_isAlike_54 : decode cX10_isAlike 54 = .ok (.iload_n 1, 1) := by decide +kernel
theorem dX10_isAlike_55 : decode cX10_isAlike 55 = .ok (.imul, 1) := by decide +kernel
theorem dX10_isAlike_56 : decode cX10_isAlike 56 = .ok (.iconst 2, 1) := by decide +kernel
theorem dX10_isAlike_57 : decode cX10_isAlike 57 = .ok (.iadd, 1) := by decide +kernel
theorem dX10_isAlike_58 : decode cX10_isAlike 58 = .ok (.iaload, 1) := by decide +kernel
theorem dX10_isAlike_59 : decode cX10_isAlike 59 = .ok (.if_icmp .ne 34, 3) := by decide +kernel
theorem dX10_isAlike_62 : decode cX10_isAlike 62 = .ok (.aload_n 0, 1) := by decide +kernel
theorem dX10_isAlike_63 : decode cX10_isAlike 63 = .ok (.getfield 189, 3) := by decide +kernel
theorem dX10_isAlike_66 : decode cX10_isAlike 66 = .ok (.iconst 4, 1) := by decide +kernel
theorem dX10_isAlike_67 : decode cX10_isAlike 67 = .ok (.iload_n 1, 1) := by decide +kernel
theorem dX10_isAlike_68 : decode cX10_isAlike 68 = .ok (.imul, 1) := by decide +kernel
theorem dX10_isAlike_69 : decode cX10_isAlike 69 = .ok (.iconst 3, 1) := by decide +kernel
theorem dX10_isAlike_70 : decode cX10_isAlike 70 = .ok (.iadd, 1) := by decide +kernel
theorem dX10_isAlike_71 : decode cX10_isAlike 71 = .ok (.iaload, 1) := by decide +kernel
theorem dX10_isAlike_72 : decode cX10_isAlike 72 = .ok (.aload_n 0, 1) := by decide +kernel
theorem dX10_isAlike_73 : decode cX10_isAlike 73 = .ok (.getfield 177, 3) := by decide +kernel
theorem dX10_isAlike_76 : decode cX10_isAlike 76 = .ok (.iload_n 1, 1) := by decide +kernel
theorem dX10_isAlike_77 : decode cX10_isAlike 77 = .ok (.baload, 1) := by decide +kernel
theorem dX10_isAlike_78 : decode cX10_isAlike 78 = .ok (.ifCond .eq 7, 3) := by decide +kernel
theorem dX10_isAlike_81 : decode cX10_isAlike 81 = .ok (.iconst 1, 1) := by decide +kernel
theorem dX10_isAlike_82 : decode cX10_isAlike 82 = .ok (.goto 4, 3) := by decide +kernel
theorem dX10_isAlike_85 : decode cX10_isAlike 85 = .ok (.iconst 0, 1) := by decide +kernel
theorem dX10_isAlike_86 : decode cX10_isAlike 86 = .ok (.if_icmp .ne 7, 3) := by decide +kernel
theorem dX10_isAlike_89 : decode cX10_isAlike 89 = .ok (.iconst 1, 1) := by decide +kernel
theorem dX10_isAlike_90 : decode cX10_isAlike 90 = .ok (.goto 4, 3) := by decide +kernel
theorem dX10_isAlike_93 : decode cX10_isAlike 93 = .ok (.iconst 0, 1) := by decide +kernel
theorem dX10_isAlike_94 : decode cX10_isAlike 94 = .ok (.ireturn, 1) := by decide +kernel
theorem dX10_count_0 : decode cX10_count 0 = .ok (.aload_n 0, 1) := by decide +kernel
theorem dX10_count_1 : decode cX10_count 1 = .ok (.iconst 0, 1) := by decide +kernel
theorem dX10_count_2 : decode cX10_count 2 = .ok (.putfield 1, 3) := by decide +kernel
theorem dX10_count_5 : decode cX10_count 5 = .ok (.iconst 0, 1) := by decide +kernel
theorem dX10_count_6 : decode cX10_count 6 = .ok (.istore_n 2, 1) := by decide +kernel
theorem dX10_count_7 : decode cX10_count 7 = .ok (.sipush 240, 3) := by decide +kernel
theorem dX10_count_10 : decode cX10_count 10 = .ok (.aload_n 0, 1) := by decide +kernel
theorem dX10_count_11 : decode cX10_count 11 = .ok (.getfield 283, 3) := by decide +kernel
theorem dX10_count_14 : decode cX10_count 14 = .ok (.imul, 1) := by decide +kernel
theorem dX10_count_15 : decode cX10_count 15 = .ok (.istore_n 3, 1) := by decide +kernel
theorem dX10_count_16 : decode cX10_count 16 = .ok (.iload_n 3, 1) := by decide +kernel
theorem dX10_count_17 : decode cX10_count 17 = .ok (.sipush 240, 3) := by decide +kernel
theorem dX10_count_20 : decode cX10_count 20 = .ok (.aload_n 0, 1) := by decide +kernel
theorem dX10_count_21 : decode cX10_count 21 = .ok (.getfield 283, 3) := by decide +kernel
theorem dX10_count_24 : decode cX10_count 24 = .ok (.imul, 1) := by decide +kernel
theorem dX10_count_25 : decode cX10_count 25 = .ok (.sipush 240, 3) := by decide +kernel
theorem dX10_count_28 : decode cX10_count 28 = .ok (.iadd, 1) := by decide +kernel
theorem dX10_count_29 : decode cX10_count 29 = .ok (.if_icmp .ge 26, 3) := by decide +kernel
theorem dX10_count_32 : decode cX10_count 32 = .ok (.iload_n 2, 1) := by decide +kernel
theorem dX10_count_33 : decode cX10_count 33 = .ok (.aload_n 0, 1) := by decide +kernel
theorem dX10_count_34 : decode cX10_count 34 = .ok (.getfield 141, 3) := by decide +kernel
theorem dX10_count_37 : decode cX10_count 37 = .ok (.iload_n 3, 1) := by decide +kernel
theorem dX10_count_38 : decode cX10_count 38 = .ok (.iaload, 1) := by decide +kernel
theorem dX10_count_39 : decode cX10_count 39 = .ok (.ifCond .lt 7, 3) := by decide +kernel
theorem dX10_count_42 : decode cX10_count 42 = .ok (.iconst 1, 1) := by decide +kernel
theorem dX10_count_43 : decode cX10_count 43 = .ok (.goto 4, 3) := by decide +kernel
theorem dX10_count_46 : decode cX10_count 46 = .ok (.iconst 0, 1) := by decide +kernel
theorem dX10_count_47 : decode cX10_count 47 = .ok (.iadd, 1) := by decide +kernel
theorem dX10_count_48 : decode cX10_count 48 = .ok (.istore_n 2, 1) := by decide +kernel
theorem dX10_count_49 : decode cX10_count 49 = .ok (.iinc 3 1, 3) := by decide +kernel
theorem dX10_count_52 : decode cX10_count 52 = .ok (.goto (-36), 3) := by decide +kernel
theorem dX10_count_55 : decode cX10_count 55 = .ok (.iload_n 1, 1) := by decide +kernel
theorem dX10_count_56 : decode cX10_count 56 = .ok (.tableswitch 99 0 7 #[48, 53, 58, 68, 77, 82, 92, 97], 48) := by decide +kernel
theorem dX10_count_104 : decode cX10_count 104 = .ok (.aload_n 0, 1) := by decide +kernel
theorem dX10_count_105 : decode cX10_count 105 = .ok (.getfield 117, 3) := by decide +kernel
theorem dX10_count_108 : decode cX10_count 108 = .ok (.ireturn, 1) := by decide +kernel
theorem dX10_count_109 : decode cX10_count 109 = .ok (.aload_n 0, 1) := by decide +kernel
theorem dX10_count_110 : decode cX10_count 110 = .ok (.getfield 283, 3) := by decide +kernel
theorem dX10_count_113 : decode cX10_count 113 = .ok (.ireturn, 1) := by decide +kernel
theorem dX10_count_114 : decode cX10_count 114 = .ok (.aload_n 0, 1) := by decide +kernel
theorem dX10_count_115 : decode cX10_count 115 = .ok (.getfield 120, 3) := by decide +kernel
theorem dX10_count_118 : decode cX10_count 118 = .ok (.aload_n 0, 1) := by decide +kernel
theorem dX10_count_119 : decode cX10_count 119 = .ok (.getfield 283, 3) := by decide +kernel
theorem dX10_count_122 : decode cX10_count 122 = .ok (.iaload, 1) := by decide +kernel
theorem dX10_count_123 : decode cX10_count 123 = .ok (.ireturn, 1) := by decide +kernel
theorem dX10_count_124 : decode cX10_count 124 = .ok (.aload_n 0, 1) := by decide +kernel
theorem dX10_count_125 : decode cX10_count 125 = .ok (.aload_n 0, 1) := by decide +kernel
theorem dX10_count_126 : decode cX10_count 126 = .ok (.getfield 283, 3) := by decide +kernel
theorem dX10_count_129 : decode cX10_count 129 = .ok (.invokevirtual 293, 3) := by decide +kernel
theorem dX10_count_132 : decode cX10_count 132 = .ok (.ireturn, 1) := by decide +kernel
theorem dX10_count_133 : decode cX10_count 133 = .ok (.aload_n 0, 1) := by decide +kernel
theorem dX10_count_134 : decode cX10_count 134 = .ok (.getfield 246, 3) := by decide +kernel
theorem dX10_count_137 : decode cX10_count 137 = .ok (.ireturn, 1) := by decide +kernel
theorem dX10_count_138 : decode cX10_count 138 = .ok (.aload_n 0, 1) := by decide +kernel
theorem dX10_count_139 : decode cX10_count 139 = .ok (.getfield 80, 3) := by decide +kernel
theorem dX10_count_142 : decode cX10_count 142 = .ok (.aload_n 0, 1) := by decide +kernel
theorem dX10_count_143 : decode cX10_count 143 = .ok (.getfield 246, 3) := by decide +kernel
theorem dX10_count_146 : decode cX10_count 146 = .ok (.iaload, 1) := by decide +kernel
theorem dX10_count_147 : decode cX10_count 147 = .ok (.ireturn, 1) := by decide +kernel
theorem dX10_count_148 : decode cX10_count 148 = .ok (.aload_n 0, 1) := by decide +kernel
theorem dX10_count_149 : decode cX10_count 149 = .ok (.getfield 11, 3) := by decide +kernel
theorem dX10_count_152 : decode cX10_count 152 = .ok (.ireturn, 1) := by decide +kernel
theorem dX10_count_153 : decode cX10_count 153 = .ok (.iload_n 2, 1) := by decide +kernel
theorem dX10_count_154 : decode cX10_count 154 = .ok (.ireturn, 1) := by decide +kernel
theorem dX10_count_155 : decode cX10_count 155 = .ok (.iconst (-1), 1) := by decide +kernel
theorem dX10_count_156 : decode cX10_count 156 = .ok (.ireturn, 1) := by decide +kernel
theorem dJ0_length_8abf5_0 : decode cJ0_length_8abf5 0 = .ok (.aload_n 0, 1) := by decide +kernel
theorem dJ0_length_8abf5_1 : decode cJ0_length_8abf5 1 = .ok (.getfield 9, 3) := by decide +kernel
theorem dJ0_length_8abf5_4 : decode cJ0_length_8abf5 4 = .ok (.arraylength, 1) := by decide +kernel
theorem dJ0_length_8abf5_5 : decode cJ0_length_8abf5 5 = .ok (.aload_n 0, 1) := by decide +kernel
theorem dJ0_length_8abf5_6 : decode cJ0_length_8abf5 6 = .ok (.invokevirtual 335, 3) := by decide +kernel
theorem dJ0_length_8abf5_9 : decode cJ0_length_8abf5 9 = .ok (.ishr, 1) := by decide +kernel
theorem dJ0_length_8abf5_10 : decode cJ0_length_8abf5 10 = .ok (.ireturn, 1) := by decide +kernel
theorem dJ0_charAt_5068e_0 : decode cJ0_charAt_5068e 0 = .ok (.aload_n 0, 1) := by decide +kernel
theorem dJ0_charAt_5068e_1 : decode cJ0_charAt_5068e 1 = .ok (.invokevirtual 492, 3) := by decide +kernel
theorem dJ0_charAt_5068e_4 : decode cJ0_charAt_5068e 4 = .ok (.ifCond .eq 12, 3) := by decide +kernel
theorem dJ0_charAt_5068e_7 : decode cJ0_charAt_5068e 7 = .ok (.aload_n 0, 1) := by decide +kernel
theorem dJ0_charAt_5068e_8 : decode cJ0_charAt_5068e 8 = .ok (.getfield 9, 3) := by decide +kernel
theorem dJ0_charAt_5068e_11 : decode cJ0_charAt_5068e 11 = .ok (.iload_n 1, 1) := by decide +kernel
theorem dJ0_charAt_5068e_12 : decode cJ0_charAt_5068e 12 = .ok (.invokestatic 495, 3) := by decide +kernel
theorem dJ0_charAt_5068e_15 : decode cJ0_charAt_5068e 15 = .ok (.ireturn, 1) := by decide +kernel
theorem dJ0_charAt_5068e_16 : decode cJ0_charAt_5068e 16 = .ok (.aload_n 0, 1) := by decide +kernel
theorem dJ0_charAt_5068e_17 : decode cJ0_charAt_5068e 17 = .ok (.getfield 9, 3) := by decide +kernel
theorem dJ0_charAt_5068e_20 : decode cJ0_charAt_5068e 20 = .ok (.iload_n 1, 1) := by decide +kernel
theorem dJ0_charAt_5068e_21 : decode cJ0_charAt_5068e 21 = .ok (.invokestatic 498, 3) := by decide +kernel
theorem dJ0_charAt_5068e_24 : decode cJ0_charAt_5068e 24 = .ok (.ireturn, 1) := by decide +kernel
theorem dJ0_indexOf_0f7a4_0 : decode cJ0_indexOf_0f7a4 0 = .ok (.aload_n 0, 1) := by decide +kernel
theorem dJ0_indexOf_0f7a4_1 : decode cJ0_indexOf_0f7a4 1 = .ok (.iload_n 1, 1) := by decide +kernel
theorem dJ0_indexOf_0f7a4_2 : decode cJ0_indexOf_0f7a4 2 = .ok (.iconst 0, 1) := by decide +kernel
theorem dJ0_indexOf_0f7a4_3 : decode cJ0_indexOf_0f7a4 3 = .ok (.invokevirtual 633, 3) := by decide +kernel
theorem dJ0_indexOf_0f7a4_6 : decode cJ0_indexOf_0f7a4 6 = .ok (.ireturn, 1) := by decide +kernel
theorem dJ0_indexOf_7cf53_0 : decode cJ0_indexOf_7cf53 0 = .ok (.aload_n 0, 1) := by decide +kernel
theorem dJ0_indexOf_7cf53_1 : decode cJ0_indexOf_7cf53 1 = .ok (.invokevirtual 492, 3) := by decide +kernel
theorem dJ0_indexOf_7cf53_4 : decode cJ0_indexOf_7cf53 4 = .ok (.ifCond .eq 19, 3) := by decide +kernel
theorem dJ0_indexOf_7cf53_7 : decode cJ0_indexOf_7cf53 7 = .ok (.aload_n 0, 1) := by decide +kernel
theorem dJ0_indexOf_7cf53_8 : decode cJ0_indexOf_7cf53 8 = .ok (.getfield 9, 3) := by decide +kernel
theorem dJ0_indexOf_7cf53_11 : decode cJ0_indexOf_7cf53 11 = .ok (.iload_n 1, 1) := by decide +kernel
theorem dJ0_indexOf_7cf53_12 : decode cJ0_indexOf_7cf53 12 = .ok (.iload_n 2, 1) := by decide +kernel
theorem dJ0_indexOf_7cf53_13 : decode cJ0_indexOf_7cf53 13 = .ok (.aload_n 0, 1) := by decide +kernel
theorem dJ0_indexOf_7cf53_14 : decode cJ0_indexOf_7cf53 14 = .ok (.invokevirtual 505, 3) := by decide +kernel
theorem dJ0_indexOf_7cf53_17 : decode cJ0_indexOf_7cf53 17 = .ok (.invokestatic 637, 3) := by decide +kernel
theorem dJ0_indexOf_7cf53_20 : decode cJ0_indexOf_7cf53 20 = .ok (.goto 16, 3) := by decide +kernel
theorem dJ0_indexOf_7cf53_23 : decode cJ0_indexOf_7cf53 23 = .ok (.aload_n 0, 1) := by decide +kernel
theorem dJ0_indexOf_7cf53_24 : decode cJ0_indexOf_7cf53 24 = .ok (.getfield 9, 3) := by decide +kernel
theorem dJ0_indexOf_7cf53_27 : decode cJ0_indexOf_7cf53 27 = .ok (.iload_n 1, 1) := by decide +kernel
theorem dJ0_indexOf_7cf53_28 : decode cJ0_indexOf_7cf53 28 = .ok (.iload_n 2, 1) := by decide +kernel
theorem dJ0_indexOf_7cf53_29 : decode cJ0_indexOf_7cf53 29 = .ok (.aload_n 0, 1) := by decide +kernel
theorem dJ0_indexOf_7cf53_30 : decode cJ0_indexOf_7cf53 30 = .ok (.invokevirtual 505, 3) := by decide +kernel
theorem dJ0_indexOf_7cf53_33 : decode cJ0_indexOf_7cf53 33 = .ok (.invokestatic 640, 3) := by decide +kernel
theorem dJ0_indexOf_7cf53_36 : decode cJ0_indexOf_7cf53 36 = .ok (.ireturn, 1) := by decide +kernel
theorem dJ0_coder_7d493_0 : decode cJ0_coder_7d493 0 = .ok (.getstatic 38, 3) := by decide +kernel
theorem dJ0_coder_7d493_3 : decode cJ0_coder_7d493 3 = .ok (.ifCond .eq 10, 3) := by decide +kernel
theorem dJ0_coder_7d493_6 : decode cJ0_coder_7d493 6 = .ok (.aload_n 0, 1) := by decide +kernel
theorem dJ0_coder_7d493_7 : decode cJ0_coder_7d493 7 = .ok (.getfield 15, 3) := by decide +kernel
theorem dJ0_coder_7d493_10 : decode cJ0_coder_7d493 10 = .ok (.goto 4, 3) := by decide +kernel
theorem dJ0_coder_7d493_13 : decode cJ0_coder_7d493 13 = .ok (.iconst 1, 1) := by decide +kernel
theorem dJ0_coder_7d493_14 : decode cJ0_coder_7d493 14 = .ok (.ireturn, 1) := by decide +kernel
theorem dJ0_isLatin1_aae02_0 : decode cJ0_isLatin1_aae02 0 = .ok (.getstatic 38, 3) := by decide +kernel
theorem dJ0_isLatin1_aae02_3 : decode cJ0_isLatin1_aae02 3 = .ok (.ifCond .eq 14, 3) := by decide +kernel
theorem dJ0_isLatin1_aae02_6 : decode cJ0_isLatin1_aae02 6 = .ok (.aload_n 0, 1) := by decide +kernel
theorem dJ0_isLatin1_aae02_7 : decode cJ0_isLatin1_aae02 7 = .ok (.getfield 15, 3) := by decide +kernel
theorem dJ0_isLatin1_aae02_10 : decode cJ0_isLatin1_aae02 10 = .ok (.ifCond .ne 7, 3) := by decide +kernel
theorem dJ0_isLatin1_aae02_13 : decode cJ0_isLatin1_aae02 13 = .ok (.iconst 1, 1) := by decide +kernel
theorem dJ0_isLatin1_aae02_14 : decode cJ0_isLatin1_aae02 14 = .ok (.goto 4, 3) := by decide +kernel
theorem dJ0_isLatin1_aae02_17 : decode cJ0_isLatin1_aae02 17 = .ok (.iconst 0, 1) := by decide +kernel
theorem dJ0_isLatin1_aae02_18 : decode cJ0_isLatin1_aae02 18 = .ok (.ireturn, 1) := by decide +kernel
theorem dJ0_checkIndex_df160_0 : decode cJ0_checkIndex_df160 0 = .ok (.iload_n 0, 1) := by decide +kernel
theorem dJ0_checkIndex_df160_1 : decode cJ0_checkIndex_df160 1 = .ok (.iload_n 1, 1) := by decide +kernel
theorem dJ0_checkIndex_df160_2 : decode cJ0_checkIndex_df160 2 = .ok (.getstatic 1053, 3) := by decide +kernel
theorem dJ0_checkIndex_df160_5 : decode cJ0_checkIndex_df160 5 = .ok (.invokestatic 1059, 3) := by decide +kernel
theorem dJ0_checkIndex_df160_8 : decode cJ0_checkIndex_df160 8 = .ok (.pop, 1) := by decide +kernel
theorem dJ0_checkIndex_df160_9 : decode cJ0_checkIndex_df160 9 = .ok (.return_, 1) := by decide +kernel
theorem dJ0_checkBoundsBeginEnd_23922_0 : decode cJ0_checkBoundsBeginEnd_23922 0 = .ok (.iload_n 0, 1) := by decide +kernel
theorem dJ0_checkBoundsBeginEnd_23922_1 : decode cJ0_checkBoundsBeginEnd_23922 1 = .ok (.iload_n 1, 1) := by decide +kernel
theorem dJ0_checkBoundsBeginEnd_23922_2 : decode cJ0_checkBoundsBeginEnd_23922 2 = .ok (.iload_n 2, 1) := by decide +kernel
theorem dJ0_checkBoundsBeginEnd_23922_3 : decode cJ0_checkBoundsBeginEnd_23922 3 = .ok (.getstatic 1053, 3) := by decide +kernel
theorem dJ0_checkBoundsBeginEnd_23922_6 : decode cJ0_checkBoundsBeginEnd_23922 6 = .ok (.invokestatic 1062, 3) := by decide +kernel
theorem dJ0_checkBoundsBeginEnd_23922_9 : decode cJ0_checkBoundsBeginEnd_23922 9 = .ok (.pop, 1) := by decide +kernel
theorem dJ0_checkBoundsBeginEnd_23922_10 : decode cJ0_checkBoundsBeginEnd_23922 10 = .ok (.return_, 1) := by decide +kernel
theorem dJ1_charAt_3b067_0 : decode cJ1_charAt_3b067 0 = .ok (.iload_n 1, 1) := by decide +kernel
theorem dJ1_charAt_3b067_1 : decode cJ1_charAt_3b067 1 = .ok (.aload_n 0, 1) := by decide +kernel
theorem dJ1_charAt_3b067_2 : decode cJ1_charAt_3b067 2 = .ok (.arraylength, 1) := by decide +kernel
theorem dJ1_charAt_3b067_3 : decode cJ1_charAt_3b067 3 = .ok (.invokestatic 9, 3) := by decide +kernel
theorem dJ1_charAt_3b067_6 : decode cJ1_charAt_3b067 6 = .ok (.aload_n 0, 1) := by decide +kernel
theorem dJ1_charAt_3b067_7 : decode cJ1_charAt_3b067 7 = .ok (.iload_n 1, 1) := by decide +kernel
theorem dJ1_charAt_3b067_8 : decode cJ1_charAt_3b067 8 = .ok (.baload, 1) := by decide +kernel
theorem dJ1_charAt_3b067_9 : decode cJ1_charAt_3b067 9 = .ok (.sipush 255, 3) := by decide +kernel
theorem dJ1_charAt_3b067_12 : decode cJ1_charAt_3b067 12 = .ok (.iand, 1) := by decide +kernel
theorem dJ1_charAt_3b067_13 : decode cJ1_charAt_3b067 13 = .ok (.i2c, 1) := by decide +kernel
theorem dJ1_charAt_3b067_14 : decode cJ1_charAt_3b067 14 = .ok (.ireturn, 1) := by decide +kernel
theorem dJ1_canEncode_9a6ad_0 : decode cJ1_canEncode_9a6ad 0 = .ok (.iload_n 0, 1) := by decide +kernel
theorem dJ1_canEncode_9a6ad_1 : decode cJ1_canEncode_9a6ad 1 = .ok (.ifCond .lt 14, 3) := by decide +kernel
theorem dJ1_canEncode_9a6ad_4 : decode cJ1_canEncode_9a6ad 4 = .ok (.iload_n 0, 1) := by decide +kernel
theorem dJ1_canEncode_9a6ad_5 : decode cJ1_canEncode_9a6ad 5 = .ok (.sipush 255, 3) := by decide +kernel
theorem dJ1_canEncode_9a6ad_8 : decode cJ1_canEncode_9a6ad 8 = .ok (.if_icmp .gt 7, 3) := by decide +kernel
theorem dJ1_canEncode_9a6ad_11 : decode cJ1_canEncode_9a6ad 11 = .ok (.iconst 1, 1) := by decide +kernel
theorem dJ1_canEncode_9a6ad_12 : decode cJ1_canEncode_9a6ad 12 = .ok (.goto 4, 3) := by decide +kernel
theorem dJ1_canEncode_9a6ad_15 : decode cJ1_canEncode_9a6ad 15 = .ok (.iconst 0, 1) := by decide +kernel
theorem dJ1_canEncode_9a6ad_16 : decode cJ1_canEncode_9a6ad 16 = .ok (.ireturn, 1) := by decide +kernel
theorem dJ1_indexOf_4cfef_0 : decode cJ1_indexOf_4cfef 0 = .ok (.iload_n 1, 1) := by decide +kernel
theorem dJ1_indexOf_4cfef_1 : decode cJ1_indexOf_4cfef 1 = .ok (.invokestatic 88, 3) := by decide +kernel
theorem dJ1_indexOf_4cfef_4 : decode cJ1_indexOf_4cfef 4 = .ok (.ifCond .ne 5, 3) := by decide +kernel
theorem dJ1_indexOf_4cfef_7 : decode cJ1_indexOf_4cfef 7 = .ok (.iconst (-1), 1) := by decide +kernel
theorem dJ1_indexOf_4cfef_8 : decode cJ1_indexOf_4cfef 8 = .ok (.ireturn, 1) := by decide +kernel
theorem dJ1_indexOf_4cfef_9 : decode cJ1_indexOf_4cfef 9 = .ok (.iload_n 2, 1) := by decide +kernel
theorem dJ1_indexOf_4cfef_10 : decode cJ1_indexOf_4cfef 10 = .ok (.iconst 0, 1) := by decide +kernel
theorem dJ1_indexOf_4cfef_11 : decode cJ1_indexOf_4cfef 11 = .ok (.invokestatic 92, 3) := by decide +kernel
theorem dJ1_indexOf_4cfef_14 : decode cJ1_indexOf_4cfef 14 = .ok (.istore_n 2, 1) := by decide +kernel
theorem dJ1_indexOf_4cfef_15 : decode cJ1_indexOf_4cfef 15 = .ok (.iload_n 3, 1) := by decide +kernel
theorem dJ1_indexOf_4cfef_16 : decode cJ1_indexOf_4cfef 16 = .ok (.aload_n 0, 1) := by decide +kernel
theorem dJ1_indexOf_4cfef_17 : decode cJ1_indexOf_4cfef 17 = .ok (.arraylength, 1) := by decide +kernel
theorem dJ1_indexOf_4cfef_18 : decode cJ1_indexOf_4cfef 18 = .ok (.invokestatic 38, 3) := by decide +kernel
theorem dJ1_indexOf_4cfef_21 : decode cJ1_indexOf_4cfef 21 = .ok (.istore_n 3, 1) := by decide +kernel
theorem dJ1_indexOf_4cfef_22 : decode cJ1_indexOf_4cfef 22 = .ok (.iload_n 2, 1) := by decide +kernel
theorem dJ1_indexOf_4cfef_23 : decode cJ1_indexOf_4cfef 23 = .ok (.iload_n 3, 1) := by decide +kernel
theorem dJ1_indexOf_4cfef_24 : decode cJ1_indexOf_4cfef 24 = .ok (.if_icmp .lt 5, 3) := by decide +kernel
theorem dJ1_indexOf_4cfef_27 : decode cJ1_indexOf_4cfef 27 = .ok (.iconst (-1), 1) := by decide +kernel
theorem dJ1_indexOf_4cfef_28 : decode cJ1_indexOf_4cfef 28 = .ok (.ireturn, 1) := by decide +kernel
theorem dJ1_indexOf_4cfef_29 : decode cJ1_indexOf_4cfef 29 = .ok (.aload_n 0, 1) := by decide +kernel
theorem dJ1_indexOf_4cfef_30 : decode cJ1_indexOf_4cfef 30 = .ok (.iload_n 1, 1) := by decide +kernel
theorem dJ1_indexOf_4cfef_31 : decode cJ1_indexOf_4cfef 31 = .ok (.iload_n 2, 1) := by decide +kernel
theorem dJ1_indexOf_4cfef_32 : decode cJ1_indexOf_4cfef 32 = .ok (.iload_n 3, 1) := by decide +kernel
theorem dJ1_indexOf_4cfef_33 : decode cJ1_indexOf_4cfef 33 = .ok (.invokestatic 95, 3) := by decide +kernel
theorem dJ1_indexOf_4cfef_36 : decode cJ1_indexOf_4cfef 36 = .ok (.ireturn, 1) := by decide +kernel
theorem dJ1_indexOfChar_4cfef_0 : decode cJ1_indexOfChar_4cfef 0 = .ok (.iload_n 1, 1) := by decide +kernel
theorem dJ1_indexOfChar_4cfef_1 : decode cJ1_indexOfChar_4cfef 1 = .ok (.i2b, 1) := by decide +kernel
theorem dJ1_indexOfChar_4cfef_2 : decode cJ1_indexOfChar_4cfef 2 = .ok (.istore 4, 2) := by decide +kernel
theorem dJ1_indexOfChar_4cfef_4 : decode cJ1_indexOfChar_4cfef 4 = .ok (.iload_n 2, 1) := by decide +kernel
theorem dJ1_indexOfChar_4cfef_5 : decode cJ1_indexOfChar_4cfef 5 = .ok (.istore 5, 2) := by decide +kernel
theorem dJ1_indexOfChar_4cfef_7 : decode cJ1_indexOfChar_4cfef 7 = .ok (.iload 5, 2) := by decide +kernel
theorem dJ1_indexOfChar_4cfef_9 : decode cJ1_indexOfChar_4cfef 9 = .ok (.iload_n 3, 1) := by decide +kernel
theorem dJ1_indexOfChar_4cfef_10 : decode cJ1_indexOfChar_4cfef 10 = .ok (.if_icmp .ge 21, 3) := by decide +kernel
theorem dJ1_indexOfChar_4cfef_13 : decode cJ1_indexOfChar_4cfef 13 = .ok (.aload_n 0, 1) := by decide +kernel
theorem dJ1_indexOfChar_4cfef_14 : decode cJ1_indexOfChar_4cfef 14 = .ok (.iload 5, 2) := by decide +kernel
theorem dJ1_indexOfChar_4cfef_16 : decode cJ1_indexOfChar_4cfef 16 = .ok (.baload, 1) := by decide +kernel
theorem dJ1_indexOfChar_4cfef_17 : decode cJ1_indexOfChar_4cfef 17 = .ok (.iload 4, 2) := by decide +kernel
theorem dJ1_indexOfChar_4cfef_19 : decode cJ1_indexOfChar_4cfef 19 = .ok (.if_icmp .ne 6, 3) := by decide +kernel
theorem dJ1_indexOfChar_4cfef_22 : decode cJ1_indexOfChar_4cfef 22 = .ok (.iload 5, 2) := by decide +kernel
theorem dJ1_indexOfChar_4cfef_24 : decode cJ1_indexOfChar_4cfef 24 = .ok (.ireturn, 1) := by decide +kernel
theorem dJ1_indexOfChar_4cfef_25 : decode cJ1_indexOfChar_4cfef 25 = .ok (.iinc 5 1, 3) := by decide +kernel
theorem dJ1_indexOfChar_4cfef_28 : decode cJ1_indexOfChar_4cfef 28 = .ok (.goto (-21), 3) := by decide +kernel
theorem dJ1_indexOfChar_4cfef_31 : decode cJ1_indexOfChar_4cfef 31 = .ok (.iconst (-1), 1) := by decide +kernel
theorem dJ1_indexOfChar_4cfef_32 : decode cJ1_indexOfChar_4cfef 32 = .ok (.ireturn, 1) := by decide +kernel
theorem dJ7_fill_53178_0 : decode cJ7_fill_53178 0 = .ok (.iconst 0, 1) := by decide +kernel
theorem dJ7_fill_53178_1 : decode cJ7_fill_53178 1 = .ok (.istore_n 2, 1) := by decide +kernel
theorem dJ7_fill_53178_2 : decode cJ7_fill_53178 2 = .ok (.aload_n 0, 1) := by decide +kernel
theorem dJ7_fill_53178_3 : decode cJ7_fill_53178 3 = .ok (.arraylength, 1) := by decide +kernel
theorem dJ7_fill_53178_4 : decode cJ7_fill_53178 4 = .ok (.istore_n 3, 1) := by decide +kernel
theorem dJ7_fill_53178_5 : decode cJ7_fill_53178 5 = .ok (.iload_n 2, 1) := by decide +kernel
theorem dJ7_fill_53178_6 : decode cJ7_fill_53178 6 = .ok (.iload_n 3, 1) := by decide +kernel
theorem dJ7_fill_53178_7 : decode cJ7_fill_53178 7 = .ok (.if_icmp .ge 13, 3) := by decide +kernel
theorem dJ7_fill_53178_10 : decode cJ7_fill_53178 10 = .ok (.aload_n 0, 1) := by decide +kernel
theorem dJ7_fill_53178_11 : decode cJ7_fill_53178 11 = .ok (.iload_n 2, 1) := by decide +kernel
theorem dJ7_fill_53178_12 : decode cJ7_fill_53178 12 = .ok (.iload_n 1, 1) := by decide +kernel
theorem dJ7_fill_53178_13 : decode cJ7_fill_53178 13 = .ok (.iastore, 1) := by decide +kernel
theorem dJ7_fill_53178_14 : decode cJ7_fill_53178 14 = .ok (.iinc 2 1, 3) := by decide +kernel
theorem dJ7_fill_53178_17 : decode cJ7_fill_53178 17 = .ok (.goto (-12), 3) := by decide +kernel
theorem dJ7_fill_53178_20 : decode cJ7_fill_53178 20 = .ok (.return_, 1) := by decide +kernel
theorem dJ3_checkIndex_8e157_0 : decode cJ3_checkIndex_8e157 0 = .ok (.iload_n 0, 1) := by decide +kernel
theorem dJ3_checkIndex_8e157_1 : decode cJ3_checkIndex_8e157 1 = .ok (.ifCond .lt 8, 3) := by decide +kernel
theorem dJ3_checkIndex_8e157_4 : decode cJ3_checkIndex_8e157 4 = .ok (.iload_n 0, 1) := by decide +kernel
theorem dJ3_checkIndex_8e157_5 : decode cJ3_checkIndex_8e157 5 = .ok (.iload_n 1, 1) := by decide +kernel
theorem dJ3_checkIndex_8e157_6 : decode cJ3_checkIndex_8e157 6 = .ok (.if_icmp .lt 10, 3) := by decide +kernel
theorem dJ3_checkIndex_8e157_9 : decode cJ3_checkIndex_8e157 9 = .ok (.aload_n 2, 1) := by decide +kernel
theorem dJ3_checkIndex_8e157_10 : decode cJ3_checkIndex_8e157 10 = .ok (.iload_n 0, 1) := by decide +kernel
theorem dJ3_checkIndex_8e157_11 : decode cJ3_checkIndex_8e157 11 = .ok (.iload_n 1, 1) := by decide +kernel
theorem dJ3_checkIndex_8e157_12 : decode cJ3_checkIndex_8e157 12 = .ok (.invokestatic 95, 3) := by decide +kernel
theorem dJ3_checkIndex_8e157_15 : decode cJ3_checkIndex_8e157 15 = .ok (.athrow, 1) := by decide +kernel
theorem dJ3_checkIndex_8e157_16 : decode cJ3_checkIndex_8e157 16 = .ok (.iload_n 0, 1) := by decide +kernel
theorem dJ3_checkIndex_8e157_17 : decode cJ3_checkIndex_8e157 17 = .ok (.ireturn, 1) := by decide +kernel
theorem dJ3_checkFromToIndex_8c36e_0 : decode cJ3_checkFromToIndex_8c36e 0 = .ok (.iload_n 0, 1) := by decide +kernel
theorem dJ3_checkFromToIndex_8c36e_1 : decode cJ3_checkFromToIndex_8c36e 1 = .ok (.ifCond .lt 13, 3) := by decide +kernel
theorem dJ3_checkFromToIndex_8c36e_4 : decode cJ3_checkFromToIndex_8c36e 4 = .ok (.iload_n 0, 1) := by decide +kernel
theorem dJ3_checkFromToIndex_8c36e_5 : decode cJ3_checkFromToIndex_8c36e 5 = .ok (.iload_n 1, 1) := by decide +kernel
theorem dJ3_checkFromToIndex_8c36e_6 : decode cJ3_checkFromToIndex_8c36e 6 = .ok (.if_icmp .gt 8, 3) := by decide +kernel
theorem dJ3_checkFromToIndex_8c36e_9 : decode cJ3_checkFromToIndex_8c36e 9 = .ok (.iload_n 1, 1) := by decide +kernel
theorem dJ3_checkFromToIndex_8c36e_10 : decode cJ3_checkFromToIndex_8c36e 10 = .ok (.iload_n 2, 1) := by decide +kernel
theorem dJ3_checkFromToIndex_8c36e_11 : decode cJ3_checkFromToIndex_8c36e 11 = .ok (.if_icmp .le 11, 3) := by decide +kernel
theorem dJ3_checkFromToIndex_8c36e_14 : decode cJ3_checkFromToIndex_8c36e 14 = .ok (.aload_n 3, 1) := by decide +kernel
theorem dJ3_checkFromToIndex_8c36e_15 : decode cJ3_checkFromToIndex_8c36e 15 = .ok (.iload_n 0, 1) := by decide +kernel
theorem dJ3_checkFromToIndex_8c36e_16 : decode cJ3_checkFromToIndex_8c36e 16 = .ok (.iload_n 1, 1) := by decide +kernel
theorem dJ3_checkFromToIndex_8c36e_17 : decode cJ3_checkFromToIndex_8c36e 17 = .ok (.iload_n 2, 1) := by decide +kernel
theorem dJ3_checkFromToIndex_8c36e_18 : decode cJ3_checkFromToIndex_8c36e 18 = .ok (.invokestatic 99, 3) := by decide +kernel
theorem dJ3_checkFromToIndex_8c36e_21 : decode cJ3_checkFromToIndex_8c36e 21 = .ok (.athrow, 1) := by decide +kernel
theorem dJ3_checkFromToIndex_8c36e_22 : decode cJ3_checkFromToIndex_8c36e 22 = .ok (.iload_n 0, 1) := by decide +kernel
theorem dJ3_checkFromToIndex_8c36e_23 : decode cJ3_checkFromToIndex_8c36e 23 = .ok (.ireturn, 1) := by decide +kernel
theorem dL_shape_0 : decode cL_shape 0 = .ok (.aload_n 3, 1) := by decide +kernel
theorem dL_shape_1 : decode cL_shape 1 = .ok (.iconst 0, 1) := by decide +kernel
theorem dL_shape_2 : decode cL_shape 2 = .ok (.aload_n 0, 1) := by decide +kernel
theorem dL_shape_3 : decode cL_shape 3 = .ok (.iload_n 1, 1) := by decide +kernel
theorem dL_shape_4 : decode cL_shape 4 = .ok (.iload_n 2, 1) := by decide +kernel
theorem dL_shape_5 : decode cL_shape 5 = .ok (.invokevirtual 7, 3) := by decide +kernel
theorem dL_shape_8 : decode cL_shape 8 = .ok (.i2l, 1) := by decide +kernel
theorem dL_shape_9 : decode cL_shape 9 = .ok (.lastore, 1) := by decide +kernel
theorem dL_shape_10 : decode cL_shape 10 = .ok (.goto 7, 3) := by decide +kernel
theorem dL_shape_13 : decode cL_shape 13 = .ok (.astore 4, 2) := by decide +kernel
theorem dL_shape_15 : decode cL_shape 15 = .ok (.iconst 1, 1) := by decide +kernel
theorem dL_shape_16 : decode cL_shape 16 = .ok (.ireturn, 1) := by decide +kernel
theorem dL_shape_17 : decode cL_shape 17 = .ok (.iconst 0, 1) := by decide +kernel
theorem dL_shape_18 : decode cL_shape 18 = .ok (.ireturn, 1) := by decide +kernel
theorem dL_law_0 : decode cL_law 0 = .ok (.new 8, 3) := by decide +kernel
theorem dL_law_3 : decode cL_law 3 = .ok (.dup, 1) := by decide +kernel
theorem dL_law_4 : decode cL_law 4 = .ok (.invokespecial 15, 3) := by decide +kernel
theorem dL_law_7 : decode cL_law 7 = .ok (.astore_n 1, 1) := by decide +kernel
theorem dL_law_8 : decode cL_law 8 = .ok (.new 16, 3) := by decide +kernel
theorem dL_law_11 : decode cL_law 11 = .ok (.dup, 1) := by decide +kernel
theorem dL_law_12 : decode cL_law 12 = .ok (.invokespecial 18, 3) := by decide +kernel
theorem dL_law_15 : decode cL_law 15 = .ok (.astore_n 2, 1) := by decide +kernel
theorem dL_law_16 : decode cL_law 16 = .ok (.iconst 1, 1) := by decide +kernel
theorem dL_law_17 : decode cL_law 17 = .ok (.newarray .long, 2) := by decide +kernel
theorem dL_law_19 : decode cL_law 19 = .ok (.astore_n 3, 1) := by decide +kernel
theorem dL_law_20 : decode cL_law 20 = .ok (.iconst 0, 1) := by decide +kernel
theorem dL_law_21 : decode cL_law 21 = .ok (.istore 4, 2) := by decide +kernel
theorem dL_law_23 : decode cL_law 23 = .ok (.iload 4, 2) := by decide +kernel
theorem dL_law_25 : decode cL_law 25 = .ok (.aload_n 0, 1) := by decide +kernel
theorem dL_law_26 : decode cL_law 26 = .ok (.arraylength, 1) := by decide +kernel
theorem dL_law_27 : decode cL_law 27 = .ok (.bipush 7, 2) := by decide +kernel
theorem dL_law_29 : decode cL_law 29 = .ok (.isub, 1) := by decide +kernel
theorem dL_law_30 : decode cL_law 30 = .ok (.if_icmp .gt 953, 3) := by decide +kernel
theorem dL_law_33 : decode cL_law 33 = .ok (.aload_n 0, 1) := by decide +kernel
theorem dL_law_34 : decode cL_law 34 = .ok (.iload 4, 2) := by decide +kernel
theorem dL_law_36 : decode cL_law 36 = .ok (.iaload, 1) := by decide +kernel
theorem dL_law_37 : decode cL_law 37 = .ok (.bipush 31, 2) := by decide +kernel
theorem dL_law_39 : decode cL_law 39 = .ok (.iand, 1) := by decide +kernel
theorem dL_law_40 : decode cL_law 40 = .ok (.tableswitch 937 0 17 #[88, 193, 312, 325, 350, 375, 400, 461, 608, 621, 670, 707, 720, 757, 825, 838, 875, 912], 88) := by decide +kernel
theorem dL_law_128 : decode cL_law 128 = .ok (.aload_n 1, 1) := by decide +kernel
theorem dL_law_129 : decode cL_law 129 = .ok (.aload_n 0, 1) := by decide +kernel
theorem dL_law_130 : decode cL_law 130 = .ok (.iload 4, 2) := by decide +kernel
theorem dL_law_132 : decode cL_law 132 = .ok (.iconst 1, 1) := by decide +kernel
theorem dL_law_133 : decode cL_law 133 = .ok (.iadd, 1) := by decide +kernel
theorem dL_law_134 : decode cL_law 134 = .ok (.iaload, 1) := by decide +kernel
theorem dL_law_135 : decode cL_law 135 = .ok (.aload_n 0, 1) := by decide +kernel
theorem dL_law_136 : decode cL_law 136 = .ok (.iload 4, 2) := by decide +kernel
theorem dL_law_138 : decode cL_law 138 = .ok (.iconst 2, 1) := by decide +kernel
theorem dL_law_139 : decode cL_law 139 = .ok (.iadd, 1) := by decide +kernel
theorem dL_law_140 : decode cL_law 140 = .ok (.iaload, 1) := by decide +kernel
theorem dL_law_141 : decode cL_law 141 = .ok (.aload_n 0, 1) := by decide +kernel
theorem dL_law_142 : decode cL_law 142 = .ok (.iload 4, 2) := by decide +kernel
theorem dL_law_144 : decode cL_law 144 = .ok (.iconst 3, 1) := by decide +kernel
theorem dL_law_145 : decode cL_law 145 = .ok (.iadd, 1) := by decide +kernel
theorem dL_law_146 : decode cL_law 146 = .ok (.iaload, 1) := by decide +kernel
theorem dL_law_147 : decode cL_law 147 = .ok (.aload_n 0, 1) := by decide +kernel
theorem dL_law_148 : decode cL_law 148 = .ok (.iload 4, 2) := by decide +kernel
theorem dL_law_150 : decode cL_law 150 = .ok (.iconst 4, 1) := by decide +kernel
theorem dL_law_151 : decode cL_law 151 = .ok (.iadd, 1) := by decide +kernel
theorem dL_law_152 : decode cL_law 152 = .ok (.iaload, 1) := by decide +kernel
theorem dL_law_153 : decode cL_law 153 = .ok (.ifCond .eq 7, 3) := by decide +kernel
theorem dL_law_156 : decode cL_law 156 = .ok (.iconst 1, 1) := by decide +kernel
theorem dL_law_157 : decode cL_law 157 = .ok (.goto 4, 3) := by decide +kernel
theorem dL_law_160 : decode cL_law 160 = .ok (.iconst 0, 1) := by decide +kernel
theorem dL_law_161 : decode cL_law 161 = .ok (.aload_n 0, 1) := by decide +kernel
theorem dL_law_162 : decode cL_law 162 = .ok (.iload 4, 2) := by decide +kernel
theorem dL_law_164 : decode cL_law 164 = .ok (.iconst 5, 1) := by decide +kernel
theorem dL_law_165 : decode cL_law 165 = .ok (.iadd, 1) := by decide +kernel
theorem dL_law_166 : decode cL_law 166 = .ok (.iaload, 1) := by decide +kernel
theorem dL_law_167 : decode cL_law 167 = .ok (.ifCond .eq 7, 3) := by decide +kernel
theorem dL_law_170 : decode cL_law 170 = .ok (.iconst 1, 1) := by decide +kernel
theorem dL_law_171 : decode cL_law 171 = .ok (.goto 4, 3) := by decide +kernel
theorem dL_law_174 : decode cL_law 174 = .ok (.iconst 0, 1) := by decide +kernel
theorem dL_law_175 : decode cL_law 175 = .ok (.invokevirtual 19, 3) := by decide +kernel
theorem dL_law_178 : decode cL_law 178 = .ok (.aload_n 2, 1) := by decide +kernel
theorem dL_law_179 : decode cL_law 179 = .ok (.aload_n 0, 1) := by decide +kernel
theorem dL_law_180 : decode cL_law 180 = .ok (.iload 4, 2) := by decide +kernel
theorem dL_law_182 : decode cL_law 182 = .ok (.iconst 1, 1) := by decide +kernel
theorem dL_law_183 : decode cL_law 183 = .ok (.iadd, 1) := by decide +kernel
theorem dL_law_184 : decode cL_law 184 = .ok (.iaload, 1) := by decide +kernel
theorem dL_law_185 : decode cL_law 185 = .ok (.aload_n 0, 1) := by decide +kernel
theorem dL_law_186 : decode cL_law 186 = .ok (.iload 4, 2) := by decide +kernel
theorem dL_law_188 : decode cL_law 188 = .ok (.iconst 2, 1) := by decide +kernel
theorem dL_law_189 : decode cL_law 189 = .ok (.iadd, 1) := by decide +kernel
theorem dL_law_190 : decode cL_law 190 = .ok (.iaload, 1) := by decide +kernel
theorem dL_law_191 : decode cL_law 191 = .ok (.aload_n 0, 1) := by decide +kernel
theorem dL_law_192 : decode cL_law 192 = .ok (.iload 4, 2) := by decide +kernel
theorem dL_law_194 : decode cL_law 194 = .ok (.iconst 3, 1) := by decide +kernel
theorem dL_law_195 : decode cL_law 195 = .ok (.iadd, 1) := by decide +kernel
theorem dL_law_196 : decode cL_law 196 = .ok (.iaload, 1) := by decide +kernel
theorem dL_law_197 : decode cL_law 197 = .ok (.aload_n 0, 1) := by decide +kernel
theorem dL_law_198 : decode cL_law 198 = .ok (.iload 4, 2) := by decide +kernel
theorem dL_law_200 : decode cL_law 200 = .ok (.iconst 4, 1) := by decide +kernel
theorem dL_law_201 : decode cL_law 201 = .ok (.iadd, 1) := by decide +kernel
theorem dL_law_202 : decode cL_law 202 = .ok (.iaload, 1) := by decide +kernel
theorem dL_law_203 : decode cL_law 203 = .ok (.ifCond .eq 7, 3) := by decide +kernel
theorem dL_law_206 : decode cL_law 206 = .ok (.iconst 1, 1) := by decide +kernel
theorem dL_law_207 : decode cL_law 207 = .ok (.goto 4, 3) := by decide +kernel
theorem dL_law_210 : decode cL_law 210 = .ok (.iconst 0, 1) := by decide +kernel
theorem dL_law_211 : decode cL_law 211 = .ok (.aload_n 0, 1) := by decide +kernel
theorem dL_law_212 : decode cL_law 212 = .ok (.iload 4, 2) := by decide +kernel
theorem dL_law_214 : decode cL_law 214 = .ok (.iconst 5, 1) := by decide +kernel
theorem dL_law_215 : decode cL_law 215 = .ok (.iadd, 1) := by decide +kernel
theorem dL_law_216 : decode cL_law 216 = .ok (.iaload, 1) := by decide +kernel
theorem dL_law_217 : decode cL_law 217 = .ok (.ifCond .eq 7, 3) := by decide +kernel
theorem dL_law_220 : decode cL_law 220 = .ok (.iconst 1, 1) := by decide +kernel
theorem dL_law_221 : decode cL_law 221 = .ok (.goto 4, 3) := by decide +kernel
theorem dL_law_224 : decode cL_law 224 = .ok (.iconst 0, 1) := by decide +kernel
theorem dL_law_225 : decode cL_law 225 = .ok (.invokevirtual 23, 3) := by decide +kernel
theorem dL_law_228 : decode cL_law 228 = .ok (.if_icmp .eq 749, 3) := by decide +kernel
theorem dL_law_231 : decode cL_law 231 = .ok (.iconst 0, 1) := by decide +kernel
theorem dL_law_232 : decode cL_law 232 = .ok (.ireturn, 1) := by decide +kernel
theorem dL_law_233 : decode cL_law 233 = .ok (.aload_n 1, 1) := by decide +kernel
theorem dL_law_234 : decode cL_law 234 = .ok (.aload_n 0, 1) := by decide +kernel
theorem dL_law_235 : decode cL_law 235 = .ok (.iload 4, 2) := by decide +kernel
theorem dL_law_237 : decode cL_law 237 = .ok (.iconst 1, 1) := by decide +kernel
theorem dL_law_238 : decode cL_law 238 = .ok (.iadd, 1) := by decide +kernel
theorem dL_law_239 : decode cL_law 239 = .ok (.iaload, 1) := by decide +kernel
theorem dL_law_240 : decode cL_law 240 = .ok (.aload_n 0, 1) := by decide +kernel
theorem dL_law_241 : decode cL_law 241 = .ok (.iload 4, 2) := by decide +kernel
theorem dL_law_243 : decode cL_law 243 = .ok (.iconst 2, 1) := by decide +kernel
theorem dL_law_244 : decode cL_law 244 = .ok (.iadd, 1) := by decide +kernel
theorem dL_law_245 : decode cL_law 245 = .ok (.iaload, 1) := by decide +kernel
theorem dL_law_246 : decode cL_law 246 = .ok (.aload_n 0, 1) := by decide +kernel
theorem dL_law_247 : decode cL_law 247 = .ok (.iload 4, 2) := by decide +kernel
theorem dL_law_249 : decode cL_law 249 = .ok (.iconst 3, 1) := by decide +kernel
theorem dL_law_250 : decode cL_law 250 = .ok (.iadd, 1) := by decide +kernel
theorem dL_law_251 : decode cL_law 251 = .ok (.iaload, 1) := by decide +kernel
theorem dL_law_252 : decode cL_law 252 = .ok (.aload_n 0, 1) := by decide +kernel
theorem dL_law_253 : decode cL_law 253 = .ok (.iload 4, 2) := by decide +kernel
theorem dL_law_255 : decode cL_law 255 = .ok (.iconst 4, 1) := by decide +kernel
theorem dL_law_256 : decode cL_law 256 = .ok (.iadd, 1) := by decide +kernel
theorem dL_law_257 : decode cL_law 257 = .ok (.iaload, 1) := by decide +kernel
theorem dL_law_258 : decode cL_law 258 = .ok (.aload_n 0, 1) := by decide +kernel
theorem dL_law_259 : decode cL_law 259 = .ok (.iload 4, 2) := by decide +kernel
theorem dL_law_261 : decode cL_law 261 = .ok (.iconst 5, 1) := by decide +kernel
theorem dL_law_262 : decode cL_law 262 = .ok (.iadd, 1) := by decide +kernel
theorem dL_law_263 : decode cL_law 263 = .ok (.iaload, 1) := by decide +kernel
theorem dL_law_264 : decode cL_law 264 = .ok (.ifCond .eq 7, 3) := by decide +kernel
theorem dL_law_267 : decode cL_law 267 = .ok (.iconst 1, 1) := by decide +kernel
theorem dL_law_268 : decode cL_law 268 = .ok (.goto 4, 3) := by decide +kernel
theorem dL_law_271 : decode cL_law 271 = .ok (.iconst 0, 1) := by decide +kernel
theorem dL_law_272 : decode cL_law 272 = .ok (.aload_n 0, 1) := by decide +kernel
theorem dL_law_273 : decode cL_law 273 = .ok (.iload 4, 2) := by decide +kernel
theorem dL_law_275 : decode cL_law 275 = .ok (.bipush 6, 2) := by decide +kernel
theorem dL_law_277 : decode cL_law 277 = .ok (.iadd, 1) := by decide +kernel
