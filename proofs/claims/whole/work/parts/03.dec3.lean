theorem dX10_goesOnBehind_1 : decode cX10_goesOnBehind 1 = .ok (.getfield 218, 3) := by decide +kernel
theorem dX10_goesOnBehind_4 : decode cX10_goesOnBehind 4 = .ok (.ifCond .ne 273, 3) := by decide +kernel
theorem dX10_goesOnBehind_7 : decode cX10_goesOnBehind 7 = .ok (.aload_n 0, 1) := by decide +kernel
theorem dX10_goesOnBehind_8 : decode cX10_goesOnBehind 8 = .ok (.getfield 102, 3) := by decide +kernel
theorem dX10_goesOnBehind_11 : decode cX10_goesOnBehind 11 = .ok (.aload_n 0, 1) := by decide +kernel
theorem dX10_goesOnBehind_12 : decode cX10_goesOnBehind 12 = .ok (.getfield 259, 3) := by decide +kernel
theorem dX10_goesOnBehind_15 : decode cX10_goesOnBehind 15 = .ok (.iaload, 1) := by decide +kernel
theorem dX10_goesOnBehind_16 : decode cX10_goesOnBehind 16 = .ok (.ifCond .eq 27, 3) := by decide +kernel
theorem dX10_goesOnBehind_19 : decode cX10_goesOnBehind 19 = .ok (.aload_n 0, 1) := by decide +kernel
theorem dX10_goesOnBehind_20 : decode cX10_goesOnBehind 20 = .ok (.aload_n 0, 1) := by decide +kernel
theorem dX10_goesOnBehind_21 : decode cX10_goesOnBehind 21 = .ok (.getfield 102, 3) := by decide +kernel
theorem dX10_goesOnBehind_24 : decode cX10_goesOnBehind 24 = .ok (.aload_n 0, 1) := by decide +kernel
theorem dX10_goesOnBehind_25 : decode cX10_goesOnBehind 25 = .ok (.getfield 259, 3) := by decide +kernel
theorem dX10_goesOnBehind_28 : decode cX10_goesOnBehind 28 = .ok (.iaload, 1) := by decide +kernel
theorem dX10_goesOnBehind_29 : decode cX10_goesOnBehind 29 = .ok (.iconst 0, 1) := by decide +kernel
theorem dX10_goesOnBehind_30 : decode cX10_goesOnBehind 30 = .ok (.invokevirtual 272, 3) := by decide +kernel
theorem dX10_goesOnBehind_33 : decode cX10_goesOnBehind 33 = .ok (.aload_n 0, 1) := by decide +kernel
theorem dX10_goesOnBehind_34 : decode cX10_goesOnBehind 34 = .ok (.getfield 102, 3) := by decide +kernel
theorem dX10_goesOnBehind_37 : decode cX10_goesOnBehind 37 = .ok (.aload_n 0, 1) := by decide +kernel
theorem dX10_goesOnBehind_38 : decode cX10_goesOnBehind 38 = .ok (.getfield 259, 3) := by decide +kernel
theorem dX10_goesOnBehind_41 : decode cX10_goesOnBehind 41 = .ok (.iconst 0, 1) := by decide +kernel
theorem dX10_goesOnBehind_42 : decode cX10_goesOnBehind 42 = .ok (.iastore, 1) := by decide +kernel
theorem dX10_goesOnBehind_43 : decode cX10_goesOnBehind 43 = .ok (.aload_n 0, 1) := by decide +kernel
theorem dX10_goesOnBehind_44 : decode cX10_goesOnBehind 44 = .ok (.bipush 43, 2) := by decide +kernel
theorem dX10_goesOnBehind_46 : decode cX10_goesOnBehind 46 = .ok (.invokevirtual 221, 3) := by decide +kernel
theorem dX10_goesOnBehind_49 : decode cX10_goesOnBehind 49 = .ok (.ifCond .ne 12, 3) := by decide +kernel
theorem dX10_goesOnBehind_52 : decode cX10_goesOnBehind 52 = .ok (.aload_n 0, 1) := by decide +kernel
theorem dX10_goesOnBehind_53 : decode cX10_goesOnBehind 53 = .ok (.bipush 45, 2) := by decide +kernel
theorem dX10_goesOnBehind_55 : decode cX10_goesOnBehind 55 = .ok (.invokevirtual 221, 3) := by decide +kernel
theorem dX10_goesOnBehind_58 : decode cX10_goesOnBehind 58 = .ok (.ifCond .eq 38, 3) := by decide +kernel
theorem dX10_goesOnBehind_61 : decode cX10_goesOnBehind 61 = .ok (.aload_n 0, 1) := by decide +kernel
theorem dX10_goesOnBehind_62 : decode cX10_goesOnBehind 62 = .ok (.getfield 102, 3) := by decide +kernel
theorem dX10_goesOnBehind_65 : decode cX10_goesOnBehind 65 = .ok (.aload_n 0, 1) := by decide +kernel
theorem dX10_goesOnBehind_66 : decode cX10_goesOnBehind 66 = .ok (.getfield 259, 3) := by decide +kernel
theorem dX10_goesOnBehind_69 : decode cX10_goesOnBehind 69 = .ok (.aload_n 0, 1) := by decide +kernel
theorem dX10_goesOnBehind_70 : decode cX10_goesOnBehind 70 = .ok (.bipush 43, 2) := by decide +kernel
theorem dX10_goesOnBehind_72 : decode cX10_goesOnBehind 72 = .ok (.invokevirtual 221, 3) := by decide +kernel
theorem dX10_goesOnBehind_75 : decode cX10_goesOnBehind 75 = .ok (.ifCond .eq 7, 3) := by decide +kernel
theorem dX10_goesOnBehind_78 : decode cX10_goesOnBehind 78 = .ok (.iconst 3, 1) := by decide +kernel
theorem dX10_goesOnBehind_79 : decode cX10_goesOnBehind 79 = .ok (.goto 4, 3) := by decide +kernel
theorem dX10_goesOnBehind_82 : decode cX10_goesOnBehind 82 = .ok (.iconst 4, 1) := by decide +kernel
theorem dX10_goesOnBehind_83 : decode cX10_goesOnBehind 83 = .ok (.iastore, 1) := by decide +kernel
theorem dX10_goesOnBehind_84 : decode cX10_goesOnBehind 84 = .ok (.aload_n 0, 1) := by decide +kernel
theorem dX10_goesOnBehind_85 : decode cX10_goesOnBehind 85 = .ok (.dup, 1) := by decide +kernel
theorem dX10_goesOnBehind_86 : decode cX10_goesOnBehind 86 = .ok (.getfield 215, 3) := by decide +kernel
theorem dX10_goesOnBehind_89 : decode cX10_goesOnBehind 89 = .ok (.iconst 1, 1) := by decide +kernel
theorem dX10_goesOnBehind_90 : decode cX10_goesOnBehind 90 = .ok (.iadd, 1) := by decide +kernel
theorem dX10_goesOnBehind_91 : decode cX10_goesOnBehind 91 = .ok (.putfield 215, 3) := by decide +kernel
theorem dX10_goesOnBehind_94 : decode cX10_goesOnBehind 94 = .ok (.iconst 1, 1) := by decide +kernel
theorem dX10_goesOnBehind_95 : decode cX10_goesOnBehind 95 = .ok (.ireturn, 1) := by decide +kernel
theorem dX10_goesOnBehind_96 : decode cX10_goesOnBehind 96 = .ok (.aload_n 0, 1) := by decide +kernel
theorem dX10_goesOnBehind_97 : decode cX10_goesOnBehind 97 = .ok (.getfield 105, 3) := by decide +kernel
theorem dX10_goesOnBehind_100 : decode cX10_goesOnBehind 100 = .ok (.aload_n 0, 1) := by decide +kernel
theorem dX10_goesOnBehind_101 : decode cX10_goesOnBehind 101 = .ok (.getfield 259, 3) := by decide +kernel
theorem dX10_goesOnBehind_104 : decode cX10_goesOnBehind 104 = .ok (.iaload, 1) := by decide +kernel
theorem dX10_goesOnBehind_105 : decode cX10_goesOnBehind 105 = .ok (.ifCond .eq 30, 3) := by decide +kernel
theorem dX10_goesOnBehind_108 : decode cX10_goesOnBehind 108 = .ok (.aload_n 0, 1) := by decide +kernel
theorem dX10_goesOnBehind_109 : decode cX10_goesOnBehind 109 = .ok (.aload_n 0, 1) := by decide +kernel
theorem dX10_goesOnBehind_110 : decode cX10_goesOnBehind 110 = .ok (.getfield 105, 3) := by decide +kernel
theorem dX10_goesOnBehind_113 : decode cX10_goesOnBehind 113 = .ok (.aload_n 0, 1) := by decide +kernel
theorem dX10_goesOnBehind_114 : decode cX10_goesOnBehind 114 = .ok (.getfield 259, 3) := by decide +kernel
theorem dX10_goesOnBehind_117 : decode cX10_goesOnBehind 117 = .ok (.iaload, 1) := by decide +kernel
theorem dX10_goesOnBehind_118 : decode cX10_goesOnBehind 118 = .ok (.iconst 0, 1) := by decide +kernel
theorem dX10_goesOnBehind_119 : decode cX10_goesOnBehind 119 = .ok (.invokevirtual 272, 3) := by decide +kernel
theorem dX10_goesOnBehind_122 : decode cX10_goesOnBehind 122 = .ok (.aload_n 0, 1) := by decide +kernel
theorem dX10_goesOnBehind_123 : decode cX10_goesOnBehind 123 = .ok (.getfield 105, 3) := by decide +kernel
theorem dX10_goesOnBehind_126 : decode cX10_goesOnBehind 126 = .ok (.aload_n 0, 1) := by decide +kernel
theorem dX10_goesOnBehind_127 : decode cX10_goesOnBehind 127 = .ok (.getfield 259, 3) := by decide +kernel
theorem dX10_goesOnBehind_130 : decode cX10_goesOnBehind 130 = .ok (.iconst 0, 1) := by decide +kernel
theorem dX10_goesOnBehind_131 : decode cX10_goesOnBehind 131 = .ok (.iastore, 1) := by decide +kernel
theorem dX10_goesOnBehind_132 : decode cX10_goesOnBehind 132 = .ok (.goto 57, 3) := by decide +kernel
theorem dX10_goesOnBehind_135 : decode cX10_goesOnBehind 135 = .ok (.aload_n 0, 1) := by decide +kernel
theorem dX10_goesOnBehind_136 : decode cX10_goesOnBehind 136 = .ok (.bipush 60, 2) := by decide +kernel
theorem dX10_goesOnBehind_138 : decode cX10_goesOnBehind 138 = .ok (.invokevirtual 221, 3) := by decide +kernel
theorem dX10_goesOnBehind_141 : decode cX10_goesOnBehind 141 = .ok (.ifCond .ne 12, 3) := by decide +kernel
theorem dX10_goesOnBehind_144 : decode cX10_goesOnBehind 144 = .ok (.aload_n 0, 1) := by decide +kernel
theorem dX10_goesOnBehind_145 : decode cX10_goesOnBehind 145 = .ok (.bipush 61, 2) := by decide +kernel
theorem dX10_goesOnBehind_147 : decode cX10_goesOnBehind 147 = .ok (.invokevirtual 221, 3) := by decide +kernel
theorem dX10_goesOnBehind_150 : decode cX10_goesOnBehind 150 = .ok (.ifCond .eq 39, 3) := by decide +kernel
theorem dX10_goesOnBehind_153 : decode cX10_goesOnBehind 153 = .ok (.aload_n 0, 1) := by decide +kernel
theorem dX10_goesOnBehind_154 : decode cX10_goesOnBehind 154 = .ok (.getfield 105, 3) := by decide +kernel
theorem dX10_goesOnBehind_157 : decode cX10_goesOnBehind 157 = .ok (.aload_n 0, 1) := by decide +kernel
theorem dX10_goesOnBehind_158 : decode cX10_goesOnBehind 158 = .ok (.getfield 259, 3) := by decide +kernel
theorem dX10_goesOnBehind_161 : decode cX10_goesOnBehind 161 = .ok (.aload_n 0, 1) := by decide +kernel
theorem dX10_goesOnBehind_162 : decode cX10_goesOnBehind 162 = .ok (.bipush 60, 2) := by decide +kernel
theorem dX10_goesOnBehind_164 : decode cX10_goesOnBehind 164 = .ok (.invokevirtual 221, 3) := by decide +kernel
theorem dX10_goesOnBehind_167 : decode cX10_goesOnBehind 167 = .ok (.ifCond .eq 7, 3) := by decide +kernel
theorem dX10_goesOnBehind_170 : decode cX10_goesOnBehind 170 = .ok (.iconst 5, 1) := by decide +kernel
theorem dX10_goesOnBehind_171 : decode cX10_goesOnBehind 171 = .ok (.goto 5, 3) := by decide +kernel
theorem dX10_goesOnBehind_174 : decode cX10_goesOnBehind 174 = .ok (.bipush 6, 2) := by decide +kernel
theorem dX10_goesOnBehind_176 : decode cX10_goesOnBehind 176 = .ok (.iastore, 1) := by decide +kernel
theorem dX10_goesOnBehind_177 : decode cX10_goesOnBehind 177 = .ok (.aload_n 0, 1) := by decide +kernel
theorem dX10_goesOnBehind_178 : decode cX10_goesOnBehind 178 = .ok (.dup, 1) := by decide +kernel
theorem dX10_goesOnBehind_179 : decode cX10_goesOnBehind 179 = .ok (.getfield 215, 3) := by decide +kernel
theorem dX10_goesOnBehind_182 : decode cX10_goesOnBehind 182 = .ok (.iconst 1, 1) := by decide +kernel
theorem dX10_goesOnBehind_183 : decode cX10_goesOnBehind 183 = .ok (.iadd, 1) := by decide +kernel
theorem dX10_goesOnBehind_184 : decode cX10_goesOnBehind 184 = .ok (.putfield 215, 3) := by decide +kernel
theorem dX10_goesOnBehind_187 : decode cX10_goesOnBehind 187 = .ok (.iconst 1, 1) := by decide +kernel
theorem dX10_goesOnBehind_188 : decode cX10_goesOnBehind 188 = .ok (.ireturn, 1) := by decide +kernel
theorem dX10_goesOnBehind_189 : decode cX10_goesOnBehind 189 = .ok (.aload_n 0, 1) := by decide +kernel
theorem dX10_goesOnBehind_190 : decode cX10_goesOnBehind 190 = .ok (.getfield 108, 3) := by decide +kernel
theorem dX10_goesOnBehind_193 : decode cX10_goesOnBehind 193 = .ok (.aload_n 0, 1) := by decide +kernel
theorem dX10_goesOnBehind_194 : decode cX10_goesOnBehind 194 = .ok (.getfield 259, 3) := by decide +kernel
theorem dX10_goesOnBehind_197 : decode cX10_goesOnBehind 197 = .ok (.iaload, 1) := by decide +kernel
theorem dX10_goesOnBehind_198 : decode cX10_goesOnBehind 198 = .ok (.ifCond .eq 20, 3) := by decide +kernel
theorem dX10_goesOnBehind_201 : decode cX10_goesOnBehind 201 = .ok (.aload_n 0, 1) := by decide +kernel
theorem dX10_goesOnBehind_202 : decode cX10_goesOnBehind 202 = .ok (.bipush 7, 2) := by decide +kernel
theorem dX10_goesOnBehind_204 : decode cX10_goesOnBehind 204 = .ok (.iconst 0, 1) := by decide +kernel
theorem dX10_goesOnBehind_205 : decode cX10_goesOnBehind 205 = .ok (.invokevirtual 272, 3) := by decide +kernel
theorem dX10_goesOnBehind_208 : decode cX10_goesOnBehind 208 = .ok (.aload_n 0, 1) := by decide +kernel
theorem dX10_goesOnBehind_209 : decode cX10_goesOnBehind 209 = .ok (.getfield 108, 3) := by decide +kernel
theorem dX10_goesOnBehind_212 : decode cX10_goesOnBehind 212 = .ok (.aload_n 0, 1) := by decide +kernel
theorem dX10_goesOnBehind_213 : decode cX10_goesOnBehind 213 = .ok (.getfield 259, 3) := by decide +kernel
theorem dX10_goesOnBehind_216 : decode cX10_goesOnBehind 216 = .ok (.iconst 0, 1) := by decide +kernel
theorem dX10_goesOnBehind_217 : decode cX10_goesOnBehind 217 = .ok (.iastore, 1) := by decide +kernel
theorem dX10_goesOnBehind_218 : decode cX10_goesOnBehind 218 = .ok (.aload_n 0, 1) := by decide +kernel
theorem dX10_goesOnBehind_219 : decode cX10_goesOnBehind 219 = .ok (.iconst 3, 1) := by decide +kernel
theorem dX10_goesOnBehind_220 : decode cX10_goesOnBehind 220 = .ok (.invokevirtual 228, 3) := by decide +kernel
theorem dX10_goesOnBehind_223 : decode cX10_goesOnBehind 223 = .ok (.ifCond .eq 26, 3) := by decide +kernel
theorem dX10_goesOnBehind_226 : decode cX10_goesOnBehind 226 = .ok (.aload_n 0, 1) := by decide +kernel
theorem dX10_goesOnBehind_227 : decode cX10_goesOnBehind 227 = .ok (.getfield 108, 3) := by decide +kernel
theorem dX10_goesOnBehind_230 : decode cX10_goesOnBehind 230 = .ok (.aload_n 0, 1) := by decide +kernel
theorem dX10_goesOnBehind_231 : decode cX10_goesOnBehind 231 = .ok (.getfield 259, 3) := by decide +kernel
theorem dX10_goesOnBehind_234 : decode cX10_goesOnBehind 234 = .ok (.bipush 7, 2) := by decide +kernel
theorem dX10_goesOnBehind_236 : decode cX10_goesOnBehind 236 = .ok (.iastore, 1) := by decide +kernel
theorem dX10_goesOnBehind_237 : decode cX10_goesOnBehind 237 = .ok (.aload_n 0, 1) := by decide +kernel
theorem dX10_goesOnBehind_238 : decode cX10_goesOnBehind 238 = .ok (.dup, 1) := by decide +kernel
theorem dX10_goesOnBehind_239 : decode cX10_goesOnBehind 239 = .ok (.getfield 215, 3) := by decide +kernel
theorem dX10_goesOnBehind_242 : decode cX10_goesOnBehind 242 = .ok (.iconst 1, 1) := by decide +kernel
theorem dX10_goesOnBehind_243 : decode cX10_goesOnBehind 243 = .ok (.iadd, 1) := by decide +kernel
theorem dX10_goesOnBehind_244 : decode cX10_goesOnBehind 244 = .ok (.putfield 215, 3) := by decide +kernel
theorem dX10_goesOnBehind_247 : decode cX10_goesOnBehind 247 = .ok (.iconst 1, 1) := by decide +kernel
theorem dX10_goesOnBehind_248 : decode cX10_goesOnBehind 248 = .ok (.ireturn, 1) := by decide +kernel
theorem dX10_goesOnBehind_249 : decode cX10_goesOnBehind 249 = .ok (.aload_n 0, 1) := by decide +kernel
theorem dX10_goesOnBehind_250 : decode cX10_goesOnBehind 250 = .ok (.getfield 259, 3) := by decide +kernel
theorem dX10_goesOnBehind_253 : decode cX10_goesOnBehind 253 = .ok (.ifCond .ne 5, 3) := by decide +kernel
theorem dX10_goesOnBehind_256 : decode cX10_goesOnBehind 256 = .ok (.iconst 0, 1) := by decide +kernel
theorem dX10_goesOnBehind_257 : decode cX10_goesOnBehind 257 = .ok (.ireturn, 1) := by decide +kernel
theorem dX10_goesOnBehind_258 : decode cX10_goesOnBehind 258 = .ok (.aload_n 0, 1) := by decide +kernel
theorem dX10_goesOnBehind_259 : decode cX10_goesOnBehind 259 = .ok (.bipush 41, 2) := by decide +kernel
theorem dX10_goesOnBehind_261 : decode cX10_goesOnBehind 261 = .ok (.invokevirtual 256, 3) := by decide +kernel
theorem dX10_goesOnBehind_264 : decode cX10_goesOnBehind 264 = .ok (.aload_n 0, 1) := by decide +kernel
theorem dX10_goesOnBehind_265 : decode cX10_goesOnBehind 265 = .ok (.dup, 1) := by decide +kernel
theorem dX10_goesOnBehind_266 : decode cX10_goesOnBehind 266 = .ok (.getfield 259, 3) := by decide +kernel
theorem dX10_goesOnBehind_269 : decode cX10_goesOnBehind 269 = .ok (.iconst 1, 1) := by decide +kernel
theorem dX10_goesOnBehind_270 : decode cX10_goesOnBehind 270 = .ok (.isub, 1) := by decide +kernel
theorem dX10_goesOnBehind_271 : decode cX10_goesOnBehind 271 = .ok (.putfield 259, 3) := by decide +kernel
theorem dX10_goesOnBehind_274 : decode cX10_goesOnBehind 274 = .ok (.goto (-274), 3) := by decide +kernel
theorem dX10_goesOnBehind_277 : decode cX10_goesOnBehind 277 = .ok (.iconst 0, 1) := by decide +kernel
theorem dX10_goesOnBehind_278 : decode cX10_goesOnBehind 278 = .ok (.ireturn, 1) := by decide +kernel
theorem dX10_worth_0 : decode cX10_worth 0 = .ok (.iload_n 1, 1) := by decide +kernel
theorem dX10_worth_1 : decode cX10_worth 1 = .ok (.istore_n 2, 1) := by decide +kernel
theorem dX10_worth_2 : decode cX10_worth 2 = .ok (.iconst 0, 1) := by decide +kernel
theorem dX10_worth_3 : decode cX10_worth 3 = .ok (.istore_n 3, 1) := by decide +kernel
theorem dX10_worth_4 : decode cX10_worth 4 = .ok (.aload_n 0, 1) := by decide +kernel
theorem dX10_worth_5 : decode cX10_worth 5 = .ok (.getfield 96, 3) := by decide +kernel
theorem dX10_worth_8 : decode cX10_worth 8 = .ok (.iload_n 2, 1) := by decide +kernel
theorem dX10_worth_9 : decode cX10_worth 9 = .ok (.iaload, 1) := by decide +kernel
theorem dX10_worth_10 : decode cX10_worth 10 = .ok (.ifCond .eq 182, 3) := by decide +kernel
theorem dX10_worth_13 : decode cX10_worth 13 = .ok (.aload_n 0, 1) := by decide +kernel
theorem dX10_worth_14 : decode cX10_worth 14 = .ok (.getfield 96, 3) := by decide +kernel
theorem dX10_worth_17 : decode cX10_worth 17 = .ok (.iload_n 2, 1) := by decide +kernel
theorem dX10_worth_18 : decode cX10_worth 18 = .ok (.iaload, 1) := by decide +kernel
theorem dX10_worth_19 : decode cX10_worth 19 = .ok (.istore 4, 2) := by decide +kernel
theorem dX10_worth_21 : decode cX10_worth 21 = .ok (.iload 4, 2) := by decide +kernel
theorem dX10_worth_23 : decode cX10_worth 23 = .ok (.iconst 1, 1) := by decide +kernel
theorem dX10_worth_24 : decode cX10_worth 24 = .ok (.if_icmp .eq 9, 3) := by decide +kernel
theorem dX10_worth_27 : decode cX10_worth 27 = .ok (.iload 4, 2) := by decide +kernel
theorem dX10_worth_29 : decode cX10_worth 29 = .ok (.iconst 2, 1) := by decide +kernel
theorem dX10_worth_30 : decode cX10_worth 30 = .ok (.if_icmp .ne 41, 3) := by decide +kernel
theorem dX10_worth_33 : decode cX10_worth 33 = .ok (.aload_n 0, 1) := by decide +kernel
theorem dX10_worth_34 : decode cX10_worth 34 = .ok (.getfield 114, 3) := by decide +kernel
theorem dX10_worth_37 : decode cX10_worth 37 = .ok (.iload_n 3, 1) := by decide +kernel
theorem dX10_worth_38 : decode cX10_worth 38 = .ok (.iload 4, 2) := by decide +kernel
theorem dX10_worth_40 : decode cX10_worth 40 = .ok (.iconst 1, 1) := by decide +kernel
theorem dX10_worth_41 : decode cX10_worth 41 = .ok (.if_icmp .ne 12, 3) := by decide +kernel
theorem dX10_worth_44 : decode cX10_worth 44 = .ok (.aload_n 0, 1) := by decide +kernel
theorem dX10_worth_45 : decode cX10_worth 45 = .ok (.getfield 99, 3) := by decide +kernel
theorem dX10_worth_48 : decode cX10_worth 48 = .ok (.iload_n 2, 1) := by decide +kernel
theorem dX10_worth_49 : decode cX10_worth 49 = .ok (.iaload, 1) := by decide +kernel
theorem dX10_worth_50 : decode cX10_worth 50 = .ok (.goto 14, 3) := by decide +kernel
theorem dX10_worth_53 : decode cX10_worth 53 = .ok (.aload_n 0, 1) := by decide +kernel
theorem dX10_worth_54 : decode cX10_worth 54 = .ok (.getfield 111, 3) := by decide +kernel
theorem dX10_worth_57 : decode cX10_worth 57 = .ok (.aload_n 0, 1) := by decide +kernel
theorem dX10_worth_58 : decode cX10_worth 58 = .ok (.getfield 99, 3) := by decide +kernel
theorem dX10_worth_61 : decode cX10_worth 61 = .ok (.iload_n 2, 1) := by decide +kernel
theorem dX10_worth_62 : decode cX10_worth 62 = .ok (.iaload, 1) := by decide +kernel
theorem dX10_worth_63 : decode cX10_worth 63 = .ok (.iaload, 1) := by decide +kernel
theorem dX10_worth_64 : decode cX10_worth 64 = .ok (.iastore, 1) := by decide +kernel
theorem dX10_worth_65 : decode cX10_worth 65 = .ok (.iinc 3 1, 3) := by decide +kernel
theorem dX10_worth_68 : decode cX10_worth 68 = .ok (.goto 118, 3) := by decide +kernel
theorem dX10_worth_71 : decode cX10_worth 71 = .ok (.iinc 3 (-1), 3) := by decide +kernel
theorem dX10_worth_74 : decode cX10_worth 74 = .ok (.aload_n 0, 1) := by decide +kernel
theorem dX10_worth_75 : decode cX10_worth 75 = .ok (.getfield 114, 3) := by decide +kernel
theorem dX10_worth_78 : decode cX10_worth 78 = .ok (.iload_n 3, 1) := by decide +kernel
theorem dX10_worth_79 : decode cX10_worth 79 = .ok (.iaload, 1) := by decide +kernel
theorem dX10_worth_80 : decode cX10_worth 80 = .ok (.istore 5, 2) := by decide +kernel
theorem dX10_worth_82 : decode cX10_worth 82 = .ok (.aload_n 0, 1) := by decide +kernel
theorem dX10_worth_83 : decode cX10_worth 83 = .ok (.getfield 114, 3) := by decide +kernel
theorem dX10_worth_86 : decode cX10_worth 86 = .ok (.iload_n 3, 1) := by decide +kernel
theorem dX10_worth_87 : decode cX10_worth 87 = .ok (.iconst 1, 1) := by decide +kernel
theorem dX10_worth_88 : decode cX10_worth 88 = .ok (.isub, 1) := by decide +kernel
theorem dX10_worth_89 : decode cX10_worth 89 = .ok (.iaload, 1) := by decide +kernel
theorem dX10_worth_90 : decode cX10_worth 90 = .ok (.istore 6, 2) := by decide +kernel
theorem dX10_worth_92 : decode cX10_worth 92 = .ok (.aload_n 0, 1) := by decide +kernel
theorem dX10_worth_93 : decode cX10_worth 93 = .ok (.getfield 114, 3) := by decide +kernel
theorem dX10_worth_96 : decode cX10_worth 96 = .ok (.iload_n 3, 1) := by decide +kernel
theorem dX10_worth_97 : decode cX10_worth 97 = .ok (.iconst 1, 1) := by decide +kernel
theorem dX10_worth_98 : decode cX10_worth 98 = .ok (.isub, 1) := by decide +kernel
theorem dX10_worth_99 : decode cX10_worth 99 = .ok (.iload 4, 2) := by decide +kernel
theorem dX10_worth_101 : decode cX10_worth 101 = .ok (.iconst 3, 1) := by decide +kernel
theorem dX10_worth_102 : decode cX10_worth 102 = .ok (.if_icmp .ne 11, 3) := by decide +kernel
theorem dX10_worth_105 : decode cX10_worth 105 = .ok (.iload 6, 2) := by decide +kernel
theorem dX10_worth_107 : decode cX10_worth 107 = .ok (.iload 5, 2) := by decide +kernel
theorem dX10_worth_109 : decode cX10_worth 109 = .ok (.iadd, 1) := by decide +kernel
theorem dX10_worth_110 : decode cX10_worth 110 = .ok (.goto 75, 3) := by decide +kernel
theorem dX10_worth_113 : decode cX10_worth 113 = .ok (.iload 4, 2) := by decide +kernel
theorem dX10_worth_115 : decode cX10_worth 115 = .ok (.iconst 4, 1) := by decide +kernel
theorem dX10_worth_116 : decode cX10_worth 116 = .ok (.if_icmp .ne 11, 3) := by decide +kernel
theorem dX10_worth_119 : decode cX10_worth 119 = .ok (.iload 6, 2) := by decide +kernel
theorem dX10_worth_121 : decode cX10_worth 121 = .ok (.iload 5, 2) := by decide +kernel
theorem dX10_worth_123 : decode cX10_worth 123 = .ok (.isub, 1) := by decide +kernel
theorem dX10_worth_124 : decode cX10_worth 124 = .ok (.goto 61, 3) := by decide +kernel
theorem dX10_worth_127 : decode cX10_worth 127 = .ok (.iload 4, 2) := by decide +kernel
theorem dX10_worth_129 : decode cX10_worth 129 = .ok (.iconst 5, 1) := by decide +kernel
theorem dX10_worth_130 : decode cX10_worth 130 = .ok (.if_icmp .ne 18, 3) := by decide +kernel
theorem dX10_worth_133 : decode cX10_worth 133 = .ok (.iload 6, 2) := by decide +kernel
theorem dX10_worth_135 : decode cX10_worth 135 = .ok (.iload 5, 2) := by decide +kernel
theorem dX10_worth_137 : decode cX10_worth 137 = .ok (.if_icmp .ge 7, 3) := by decide +kernel
theorem dX10_worth_140 : decode cX10_worth 140 = .ok (.iconst 1, 1) := by decide +kernel
theorem dX10_worth_141 : decode cX10_worth 141 = .ok (.goto 44, 3) := by decide +kernel
theorem dX10_worth_144 : decode cX10_worth 144 = .ok (.iconst 0, 1) := by decide +kernel
theorem dX10_worth_145 : decode cX10_worth 145 = .ok (.goto 40, 3) := by decide +kernel
theorem dX10_worth_148 : decode cX10_worth 148 = .ok (.iload 4, 2) := by decide +kernel
theorem dX10_worth_150 : decode cX10_worth 150 = .ok (.bipush 6, 2) := by decide +kernel
theorem dX10_worth_152 : decode cX10_worth 152 = .ok (.if_icmp .ne 18, 3) := by decide +kernel
theorem dX10_worth_155 : decode cX10_worth 155 = .ok (.iload 6, 2) := by decide +kernel
theorem dX10_worth_157 : decode cX10_worth 157 = .ok (.iload 5, 2) := by decide +kernel
theorem dX10_worth_159 : decode cX10_worth 159 = .ok (.if_icmp .ne 7, 3) := by decide +kernel
theorem dX10_worth_162 : decode cX10_worth 162 = .ok (.iconst 1, 1) := by decide +kernel
theorem dX10_worth_163 : decode cX10_worth 163 = .ok (.goto 22, 3) := by decide +kernel
theorem dX10_worth_166 : decode cX10_worth 166 = .ok (.iconst 0, 1) := by decide +kernel
theorem dX10_worth_167 : decode cX10_worth 167 = .ok (.goto 18, 3) := by decide +kernel
theorem dX10_worth_170 : decode cX10_worth 170 = .ok (.iload 6, 2) := by decide +kernel
theorem dX10_worth_172 : decode cX10_worth 172 = .ok (.ifCond .eq 12, 3) := by decide +kernel
theorem dX10_worth_175 : decode cX10_worth 175 = .ok (.iload 5, 2) := by decide +kernel
theorem dX10_worth_177 : decode cX10_worth 177 = .ok (.ifCond .eq 7, 3) := by decide +kernel
theorem dX10_worth_180 : decode cX10_worth 180 = .ok (.iconst 1, 1) := by decide +kernel
theorem dX10_worth_181 : decode cX10_worth 181 = .ok (.goto 4, 3) := by decide +kernel
theorem dX10_worth_184 : decode cX10_worth 184 = .ok (.iconst 0, 1) := by decide +kernel
theorem dX10_worth_185 : decode cX10_worth 185 = .ok (.iastore, 1) := by decide +kernel
theorem dX10_worth_186 : decode cX10_worth 186 = .ok (.iinc 2 1, 3) := by decide +kernel
theorem dX10_worth_189 : decode cX10_worth 189 = .ok (.goto (-185), 3) := by decide +kernel
theorem dX10_worth_192 : decode cX10_worth 192 = .ok (.aload_n 0, 1) := by decide +kernel
theorem dX10_worth_193 : decode cX10_worth 193 = .ok (.getfield 114, 3) := by decide +kernel
theorem dX10_worth_196 : decode cX10_worth 196 = .ok (.iconst 0, 1) := by decide +kernel
theorem dX10_worth_197 : decode cX10_worth 197 = .ok (.iaload, 1) := by decide +kernel
theorem dX10_worth_198 : decode cX10_worth 198 = .ok (.ireturn, 1) := by decide +kernel
theorem dX10_manner_0 : decode cX10_manner 0 = .ok (.aload_n 0, 1) := by decide +kernel
theorem dX10_manner_1 : decode cX10_manner 1 = .ok (.iconst 0, 1) := by decide +kernel
theorem dX10_manner_2 : decode cX10_manner 2 = .ok (.putfield 1, 3) := by decide +kernel
theorem dX10_manner_5 : decode cX10_manner 5 = .ok (.iload_n 1, 1) := by decide +kernel
theorem dX10_manner_6 : decode cX10_manner 6 = .ok (.ifCond .lt 36, 3) := by decide +kernel
theorem dX10_manner_9 : decode cX10_manner 9 = .ok (.iload_n 1, 1) := by decide +kernel
theorem dX10_manner_10 : decode cX10_manner 10 = .ok (.iconst 3, 1) := by decide +kernel
theorem dX10_manner_11 : decode cX10_manner 11 = .ok (.if_icmp .gt 31, 3) := by decide +kernel
theorem dX10_manner_14 : decode cX10_manner 14 = .ok (.iload_n 2, 1) := by decide +kernel
theorem dX10_manner_15 : decode cX10_manner 15 = .ok (.ifCond .lt 27, 3) := by decide +kernel
theorem dX10_manner_18 : decode cX10_manner 18 = .ok (.iload_n 3, 1) := by decide +kernel
theorem dX10_manner_19 : decode cX10_manner 19 = .ok (.bipush 99, 2) := by decide +kernel
theorem dX10_manner_21 : decode cX10_manner 21 = .ok (.if_icmp .gt 21, 3) := by decide +kernel
theorem dX10_manner_24 : decode cX10_manner 24 = .ok (.iload_n 2, 1) := by decide +kernel
theorem dX10_manner_25 : decode cX10_manner 25 = .ok (.iload_n 3, 1) := by decide +kernel
theorem dX10_manner_26 : decode cX10_manner 26 = .ok (.if_icmp .gt 16, 3) := by decide +kernel
theorem dX10_manner_29 : decode cX10_manner 29 = .ok (.iload 4, 2) := by decide +kernel
theorem dX10_manner_31 : decode cX10_manner 31 = .ok (.iconst 1, 1) := by decide +kernel
theorem dX10_manner_32 : decode cX10_manner 32 = .ok (.if_icmp .lt 10, 3) := by decide +kernel
theorem dX10_manner_35 : decode cX10_manner 35 = .ok (.iload 4, 2) := by decide +kernel
theorem dX10_manner_37 : decode cX10_manner 37 = .ok (.bipush 99, 2) := by decide +kernel
theorem dX10_manner_39 : decode cX10_manner 39 = .ok (.if_icmp .le 5, 3) := by decide +kernel
theorem dX10_manner_42 : decode cX10_manner 42 = .ok (.iconst 0, 1) := by decide +kernel
theorem dX10_manner_43 : decode cX10_manner 43 = .ok (.ireturn, 1) := by decide +kernel
theorem dX10_manner_44 : decode cX10_manner 44 = .ok (.aload_n 0, 1) := by decide +kernel
theorem dX10_manner_45 : decode cX10_manner 45 = .ok (.iload_n 1, 1) := by decide +kernel
theorem dX10_manner_46 : decode cX10_manner 46 = .ok (.putfield 246, 3) := by decide +kernel
theorem dX10_manner_49 : decode cX10_manner 49 = .ok (.aload_n 0, 1) := by decide +kernel
theorem dX10_manner_50 : decode cX10_manner 50 = .ok (.getfield 71, 3) := by decide +kernel
theorem dX10_manner_53 : decode cX10_manner 53 = .ok (.iload_n 1, 1) := by decide +kernel
theorem dX10_manner_54 : decode cX10_manner 54 = .ok (.iload_n 2, 1) := by decide +kernel
theorem dX10_manner_55 : decode cX10_manner 55 = .ok (.iastore, 1) := by decide +kernel
theorem dX10_manner_56 : decode cX10_manner 56 = .ok (.aload_n 0, 1) := by decide +kernel
theorem dX10_manner_57 : decode cX10_manner 57 = .ok (.getfield 74, 3) := by decide +kernel
theorem dX10_manner_60 : decode cX10_manner 60 = .ok (.iload_n 1, 1) := by decide +kernel
theorem dX10_manner_61 : decode cX10_manner 61 = .ok (.iload_n 3, 1) := by decide +kernel
theorem dX10_manner_62 : decode cX10_manner 62 = .ok (.iastore, 1) := by decide +kernel
theorem dX10_manner_63 : decode cX10_manner 63 = .ok (.aload_n 0, 1) := by decide +kernel
theorem dX10_manner_64 : decode cX10_manner 64 = .ok (.getfield 77, 3) := by decide +kernel
theorem dX10_manner_67 : decode cX10_manner 67 = .ok (.iload_n 1, 1) := by decide +kernel
theorem dX10_manner_68 : decode cX10_manner 68 = .ok (.iload 4, 2) := by decide +kernel
theorem dX10_manner_70 : decode cX10_manner 70 = .ok (.iastore, 1) := by decide +kernel
theorem dX10_manner_71 : decode cX10_manner 71 = .ok (.iconst 1, 1) := by decide +kernel
theorem dX10_manner_72 : decode cX10_manner 72 = .ok (.ireturn, 1) := by decide +kernel
theorem dX10_isWordSo_0 : decode cX10_isWordSo 0 = .ok (.iload_n 0, 1) := by decide +kernel
theorem dX10_isWordSo_1 : decode cX10_isWordSo 1 = .ok (.iconst 1, 1) := by decide +kernel
theorem dX10_isWordSo_2 : decode cX10_isWordSo 2 = .ok (.if_icmp .lt 31, 3) := by decide +kernel
theorem dX10_isWordSo_5 : decode cX10_isWordSo 5 = .ok (.iload_n 0, 1) := by decide +kernel
theorem dX10_isWordSo_6 : decode cX10_isWordSo 6 = .ok (.iconst 5, 1) := by decide +kernel
theorem dX10_isWordSo_7 : decode cX10_isWordSo 7 = .ok (.if_icmp .gt 26, 3) := by decide +kernel
theorem dX10_isWordSo_10 : decode cX10_isWordSo 10 = .ok (.iload_n 1, 1) := by decide +kernel
theorem dX10_isWordSo_11 : decode cX10_isWordSo 11 = .ok (.ifCond .lt 22, 3) := by decide +kernel
theorem dX10_isWordSo_14 : decode cX10_isWordSo 14 = .ok (.iload_n 1, 1) := by decide +kernel
theorem dX10_isWordSo_15 : decode cX10_isWordSo 15 = .ok (.iload_n 0, 1) := by decide +kernel
theorem dX10_isWordSo_16 : decode cX10_isWordSo 16 = .ok (.if_icmp .ge 17, 3) := by decide +kernel
theorem dX10_isWordSo_19 : decode cX10_isWordSo 19 = .ok (.iload_n 2, 1) := by decide +kernel
theorem dX10_isWordSo_20 : decode cX10_isWordSo 20 = .ok (.ifCond .lt 13, 3) := by decide +kernel
theorem dX10_isWordSo_23 : decode cX10_isWordSo 23 = .ok (.iload_n 2, 1) := by decide +kernel
theorem dX10_isWordSo_24 : decode cX10_isWordSo 24 = .ok (.bipush 99, 2) := by decide +kernel
theorem dX10_isWordSo_26 : decode cX10_isWordSo 26 = .ok (.if_icmp .gt 7, 3) := by decide +kernel
theorem dX10_isWordSo_29 : decode cX10_isWordSo 29 = .ok (.iconst 1, 1) := by decide +kernel
theorem dX10_isWordSo_30 : decode cX10_isWordSo 30 = .ok (.goto 4, 3) := by decide +kernel
theorem dX10_isWordSo_33 : decode cX10_isWordSo 33 = .ok (.iconst 0, 1) := by decide +kernel
theorem dX10_isWordSo_34 : decode cX10_isWordSo 34 = .ok (.ireturn, 1) := by decide +kernel
theorem dX10_tells_0 : decode cX10_tells 0 = .ok (.aload_n 0, 1) := by decide +kernel
theorem dX10_tells_1 : decode cX10_tells 1 = .ok (.getfield 123, 3) := by decide +kernel
theorem dX10_tells_4 : decode cX10_tells 4 = .ok (.iload_n 1, 1) := by decide +kernel
theorem dX10_tells_5 : decode cX10_tells 5 = .ok (.iload_n 2, 1) := by decide +kernel
theorem dX10_tells_6 : decode cX10_tells 6 = .ok (.iastore, 1) := by decide +kernel
theorem dX10_tells_7 : decode cX10_tells 7 = .ok (.aload_n 0, 1) := by decide +kernel
theorem dX10_tells_8 : decode cX10_tells 8 = .ok (.getfield 126, 3) := by decide +kernel
theorem dX10_tells_11 : decode cX10_tells 11 = .ok (.iload_n 1, 1) := by decide +kernel
theorem dX10_tells_12 : decode cX10_tells 12 = .ok (.iload_n 3, 1) := by decide +kernel
theorem dX10_tells_13 : decode cX10_tells 13 = .ok (.iastore, 1) := by decide +kernel
theorem dX10_tells_14 : decode cX10_tells 14 = .ok (.aload_n 0, 1) := by decide +kernel
theorem dX10_tells_15 : decode cX10_tells 15 = .ok (.getfield 129, 3) := by decide +kernel
theorem dX10_tells_18 : decode cX10_tells 18 = .ok (.iload_n 1, 1) := by decide +kernel
theorem dX10_tells_19 : decode cX10_tells 19 = .ok (.iload 4, 2) := by decide +kernel
theorem dX10_tells_21 : decode cX10_tells 21 = .ok (.iastore, 1) := by decide +kernel
theorem dX10_tells_22 : decode cX10_tells 22 = .ok (.aload_n 0, 1) := by decide +kernel
theorem dX10_tells_23 : decode cX10_tells 23 = .ok (.getfield 132, 3) := by decide +kernel
theorem dX10_tells_26 : decode cX10_tells 26 = .ok (.iload_n 1, 1) := by decide +kernel
theorem dX10_tells_27 : decode cX10_tells 27 = .ok (.iload 5, 2) := by decide +kernel
theorem dX10_tells_29 : decode cX10_tells 29 = .ok (.bastore, 1) := by decide +kernel
theorem dX10_tells_30 : decode cX10_tells 30 = .ok (.aload_n 0, 1) := by decide +kernel
theorem dX10_tells_31 : decode cX10_tells 31 = .ok (.getfield 135, 3) := by decide +kernel
theorem dX10_tells_34 : decode cX10_tells 34 = .ok (.iload_n 1, 1) := by decide +kernel
theorem dX10_tells_35 : decode cX10_tells 35 = .ok (.iload 6, 2) := by decide +kernel
theorem dX10_tells_37 : decode cX10_tells 37 = .ok (.bastore, 1) := by decide +kernel
theorem dX10_tells_38 : decode cX10_tells 38 = .ok (.return_, 1) := by decide +kernel
theorem dX10_word_0 : decode cX10_word 0 = .ok (.aload_n 0, 1) := by decide +kernel
theorem dX10_word_1 : decode cX10_word 1 = .ok (.iconst 0, 1) := by decide +kernel
theorem dX10_word_2 : decode cX10_word 2 = .ok (.putfield 1, 3) := by decide +kernel
theorem dX10_word_5 : decode cX10_word 5 = .ok (.iload_n 1, 1) := by decide +kernel
theorem dX10_word_6 : decode cX10_word 6 = .ok (.iload_n 2, 1) := by decide +kernel
theorem dX10_word_7 : decode cX10_word 7 = .ok (.iload_n 3, 1) := by decide +kernel
theorem dX10_word_8 : decode cX10_word 8 = .ok (.invokestatic 279, 3) := by decide +kernel
theorem dX10_word_11 : decode cX10_word 11 = .ok (.ifCond .eq 17, 3) := by decide +kernel
theorem dX10_word_14 : decode cX10_word 14 = .ok (.aload_n 0, 1) := by decide +kernel
theorem dX10_word_15 : decode cX10_word 15 = .ok (.getfield 120, 3) := by decide +kernel
theorem dX10_word_18 : decode cX10_word 18 = .ok (.aload_n 0, 1) := by decide +kernel
theorem dX10_word_19 : decode cX10_word 19 = .ok (.getfield 283, 3) := by decide +kernel
theorem dX10_word_22 : decode cX10_word 22 = .ok (.iaload, 1) := by decide +kernel
theorem dX10_word_23 : decode cX10_word 23 = .ok (.bipush 16, 2) := by decide +kernel
theorem dX10_word_25 : decode cX10_word 25 = .ok (.if_icmp .ne 5, 3) := by decide +kernel
theorem dX10_word_28 : decode cX10_word 28 = .ok (.iconst (-1), 1) := by decide +kernel
theorem dX10_word_29 : decode cX10_word 29 = .ok (.ireturn, 1) := by decide +kernel
theorem dX10_word_30 : decode cX10_word 30 = .ok (.aload_n 0, 1) := by decide +kernel
theorem dX10_word_31 : decode cX10_word 31 = .ok (.bipush 16, 2) := by decide +kernel
theorem dX10_word_33 : decode cX10_word 33 = .ok (.aload_n 0, 1) := by decide +kernel
theorem dX10_word_34 : decode cX10_word 34 = .ok (.getfield 283, 3) := by decide +kernel
theorem dX10_word_37 : decode cX10_word 37 = .ok (.imul, 1) := by decide +kernel
theorem dX10_word_38 : decode cX10_word 38 = .ok (.aload_n 0, 1) := by decide +kernel
theorem dX10_word_39 : decode cX10_word 39 = .ok (.getfield 120, 3) := by decide +kernel
theorem dX10_word_42 : decode cX10_word 42 = .ok (.aload_n 0, 1) := by decide +kernel
theorem dX10_word_43 : decode cX10_word 43 = .ok (.getfield 283, 3) := by decide +kernel
theorem dX10_word_46 : decode cX10_word 46 = .ok (.iaload, 1) := by decide +kernel
theorem dX10_word_47 : decode cX10_word 47 = .ok (.iadd, 1) := by decide +kernel
theorem dX10_word_48 : decode cX10_word 48 = .ok (.iload_n 1, 1) := by decide +kernel
theorem dX10_word_49 : decode cX10_word 49 = .ok (.iload_n 2, 1) := by decide +kernel
theorem dX10_word_50 : decode cX10_word 50 = .ok (.iload_n 3, 1) := by decide +kernel
theorem dX10_word_51 : decode cX10_word 51 = .ok (.iload 4, 2) := by decide +kernel
theorem dX10_word_53 : decode cX10_word 53 = .ok (.iload 5, 2) := by decide +kernel
theorem dX10_word_55 : decode cX10_word 55 = .ok (.invokevirtual 286, 3) := by decide +kernel
theorem dX10_word_58 : decode cX10_word 58 = .ok (.aload_n 0, 1) := by decide +kernel
theorem dX10_word_59 : decode cX10_word 59 = .ok (.getfield 120, 3) := by decide +kernel
theorem dX10_word_62 : decode cX10_word 62 = .ok (.aload_n 0, 1) := by decide +kernel
theorem dX10_word_63 : decode cX10_word 63 = .ok (.getfield 283, 3) := by decide +kernel
theorem dX10_word_66 : decode cX10_word 66 = .ok (.dup2, 1) := by decide +kernel
theorem dX10_word_67 : decode cX10_word 67 = .ok (.iaload, 1) := by decide +kernel
theorem dX10_word_68 : decode cX10_word 68 = .ok (.iconst 1, 1) := by decide +kernel
theorem dX10_word_69 : decode cX10_word 69 = .ok (.iadd, 1) := by decide +kernel
theorem dX10_word_70 : decode cX10_word 70 = .ok (.iastore, 1) := by decide +kernel
theorem dX10_word_71 : decode cX10_word 71 = .ok (.aload_n 0, 1) := by decide +kernel
theorem dX10_word_72 : decode cX10_word 72 = .ok (.getfield 120, 3) := by decide +kernel
theorem dX10_word_75 : decode cX10_word 75 = .ok (.aload_n 0, 1) := by decide +kernel
theorem dX10_word_76 : decode cX10_word 76 = .ok (.getfield 283, 3) := by decide +kernel
theorem dX10_word_79 : decode cX10_word 79 = .ok (.iaload, 1) := by decide +kernel
theorem dX10_word_80 : decode cX10_word 80 = .ok (.ireturn, 1) := by decide +kernel
theorem dX10_change_0 : decode cX10_change 0 = .ok (.aload_n 0, 1) := by decide +kernel
theorem dX10_change_1 : decode cX10_change 1 = .ok (.iconst 0, 1) := by decide +kernel
theorem dX10_change_2 : decode cX10_change 2 = .ok (.putfield 1, 3) := by decide +kernel
theorem dX10_change_5 : decode cX10_change 5 = .ok (.iload_n 1, 1) := by decide +kernel
theorem dX10_change_6 : decode cX10_change 6 = .ok (.ifCond .lt 26, 3) := by decide +kernel
theorem dX10_change_9 : decode cX10_change 9 = .ok (.iload_n 1, 1) := by decide +kernel
theorem dX10_change_10 : decode cX10_change 10 = .ok (.aload_n 0, 1) := by decide +kernel
theorem dX10_change_11 : decode cX10_change 11 = .ok (.getfield 120, 3) := by decide +kernel
theorem dX10_change_14 : decode cX10_change 14 = .ok (.aload_n 0, 1) := by decide +kernel
theorem dX10_change_15 : decode cX10_change 15 = .ok (.getfield 283, 3) := by decide +kernel
theorem dX10_change_18 : decode cX10_change 18 = .ok (.iaload, 1) := by decide +kernel
theorem dX10_change_19 : decode cX10_change 19 = .ok (.if_icmp .ge 13, 3) := by decide +kernel
theorem dX10_change_22 : decode cX10_change 22 = .ok (.iload_n 2, 1) := by decide +kernel
theorem dX10_change_23 : decode cX10_change 23 = .ok (.iload_n 3, 1) := by decide +kernel
theorem dX10_change_24 : decode cX10_change 24 = .ok (.iload 4, 2) := by decide +kernel
theorem dX10_change_26 : decode cX10_change 26 = .ok (.invokestatic 279, 3) := by decide +kernel
theorem dX10_change_29 : decode cX10_change 29 = .ok (.ifCond .ne 5, 3) := by decide +kernel
theorem dX10_change_32 : decode cX10_change 32 = .ok (.iconst 0, 1) := by decide +kernel
theorem dX10_change_33 : decode cX10_change 33 = .ok (.ireturn, 1) := by decide +kernel
theorem dX10_change_34 : decode cX10_change 34 = .ok (.aload_n 0, 1) := by decide +kernel
theorem dX10_change_35 : decode cX10_change 35 = .ok (.getfield 123, 3) := by decide +kernel
theorem dX10_change_38 : decode cX10_change 38 = .ok (.bipush 16, 2) := by decide +kernel
theorem dX10_change_40 : decode cX10_change 40 = .ok (.aload_n 0, 1) := by decide +kernel
theorem dX10_change_41 : decode cX10_change 41 = .ok (.getfield 283, 3) := by decide +kernel
theorem dX10_change_44 : decode cX10_change 44 = .ok (.imul, 1) := by decide +kernel
theorem dX10_change_45 : decode cX10_change 45 = .ok (.iload_n 1, 1) := by decide +kernel
theorem dX10_change_46 : decode cX10_change 46 = .ok (.iadd, 1) := by decide +kernel
theorem dX10_change_47 : decode cX10_change 47 = .ok (.iaload, 1) := by decide +kernel
theorem dX10_change_48 : decode cX10_change 48 = .ok (.iload_n 2, 1) := by decide +kernel
theorem dX10_change_49 : decode cX10_change 49 = .ok (.if_icmp .eq 44, 3) := by decide +kernel
theorem dX10_change_52 : decode cX10_change 52 = .ok (.sipush 240, 3) := by decide +kernel
theorem dX10_change_55 : decode cX10_change 55 = .ok (.aload_n 0, 1) := by decide +kernel
theorem dX10_change_56 : decode cX10_change 56 = .ok (.getfield 283, 3) := by decide +kernel
theorem dX10_change_59 : decode cX10_change 59 = .ok (.imul, 1) := by decide +kernel
theorem dX10_change_60 : decode cX10_change 60 = .ok (.istore 7, 2) := by decide +kernel
theorem dX10_change_62 : decode cX10_change 62 = .ok (.iload 7, 2) := by decide +kernel
theorem dX10_change_64 : decode cX10_change 64 = .ok (.sipush 240, 3) := by decide +kernel
theorem dX10_change_67 : decode cX10_change 67 = .ok (.aload_n 0, 1) := by decide +kernel
theorem dX10_change_68 : decode cX10_change 68 = .ok (.getfield 283, 3) := by decide +kernel
theorem dX10_change_71 : decode cX10_change 71 = .ok (.imul, 1) := by decide +kernel
theorem dX10_change_72 : decode cX10_change 72 = .ok (.sipush 240, 3) := by decide +kernel
theorem dX10_change_75 : decode cX10_change 75 = .ok (.iadd, 1) := by decide +kernel
theorem dX10_change_76 : decode cX10_change 76 = .ok (.if_icmp .ge 17, 3) := by decide +kernel
theorem dX10_change_79 : decode cX10_change 79 = .ok (.aload_n 0, 1) := by decide +kernel
theorem dX10_change_80 : decode cX10_change 80 = .ok (.getfield 141, 3) := by decide +kernel
theorem dX10_change_83 : decode cX10_change 83 = .ok (.iload 7, 2) := by decide +kernel
theorem dX10_change_85 : decode cX10_change 85 = .ok (.iconst (-1), 1) := by decide +kernel
theorem dX10_change_86 : decode cX10_change 86 = .ok (.iastore, 1) := by decide +kernel
theorem dX10_change_87 : decode cX10_change 87 = .ok (.iinc 7 1, 3) := by decide +kernel
theorem dX10_change_90 : decode cX10_change 90 = .ok (.goto (-28), 3) := by decide +kernel
theorem dX10_change_93 : decode cX10_change 93 = .ok (.aload_n 0, 1) := by decide +kernel
theorem dX10_change_94 : decode cX10_change 94 = .ok (.bipush 16, 2) := by decide +kernel
theorem dX10_change_96 : decode cX10_change 96 = .ok (.aload_n 0, 1) := by decide +kernel
theorem dX10_change_97 : decode cX10_change 97 = .ok (.getfield 283, 3) := by decide +kernel
theorem dX10_change_100 : decode cX10_change 100 = .ok (.imul, 1) := by decide +kernel
theorem dX10_change_101 : decode cX10_change 101 = .ok (.iload_n 1, 1) := by decide +kernel
theorem dX10_change_102 : decode cX10_change 102 = .ok (.iadd, 1) := by decide +kernel
theorem dX10_change_103 : decode cX10_change 103 = .ok (.iload_n 2, 1) := by decide +kernel
theorem dX10_change_104 : decode cX10_change 104 = .ok (.iload_n 3, 1) := by decide +kernel
theorem dX10_change_105 : decode cX10_change 105 = .ok (.iload 4, 2) := by decide +kernel
theorem dX10_change_107 : decode cX10_change 107 = .ok (.iload 5, 2) := by decide +kernel
theorem dX10_change_109 : decode cX10_change 109 = .ok (.iload 6, 2) := by decide +kernel
theorem dX10_change_111 : decode cX10_change 111 = .ok (.invokevirtual 286, 3) := by decide +kernel
theorem dX10_change_114 : decode cX10_change 114 = .ok (.iconst 1, 1) := by decide +kernel
theorem dX10_change_115 : decode cX10_change 115 = .ok (.ireturn, 1) := by decide +kernel
theorem dX10_reading_0 : decode cX10_reading 0 = .ok (.aload_n 0, 1) := by decide +kernel
theorem dX10_reading_1 : decode cX10_reading 1 = .ok (.iconst 0, 1) := by decide +kernel
theorem dX10_reading_2 : decode cX10_reading 2 = .ok (.putfield 1, 3) := by decide +kernel
theorem dX10_reading_5 : decode cX10_reading 5 = .ok (.aload_n 0, 1) := by decide +kernel
theorem dX10_reading_6 : decode cX10_reading 6 = .ok (.getfield 117, 3) := by decide +kernel
theorem dX10_reading_9 : decode cX10_reading 9 = .ok (.iconst 4, 1) := by decide +kernel
theorem dX10_reading_10 : decode cX10_reading 10 = .ok (.if_icmp .ne 5, 3) := by decide +kernel
theorem dX10_reading_13 : decode cX10_reading 13 = .ok (.iconst (-1), 1) := by decide +kernel
theorem dX10_reading_14 : decode cX10_reading 14 = .ok (.ireturn, 1) := by decide +kernel
theorem dX10_reading_15 : decode cX10_reading 15 = .ok (.aload_n 0, 1) := by decide +kernel
theorem dX10_reading_16 : decode cX10_reading 16 = .ok (.getfield 117, 3) := by decide +kernel
theorem dX10_reading_19 : decode cX10_reading 19 = .ok (.istore_n 1, 1) := by decide +kernel
theorem dX10_reading_20 : decode cX10_reading 20 = .ok (.aload_n 0, 1) := by decide +kernel
theorem dX10_reading_21 : decode cX10_reading 21 = .ok (.getfield 120, 3) := by decide +kernel
theorem dX10_reading_24 : decode cX10_reading 24 = .ok (.iload_n 1, 1) := by decide +kernel
theorem dX10_reading_25 : decode cX10_reading 25 = .ok (.aload_n 0, 1) := by decide +kernel
theorem dX10_reading_26 : decode cX10_reading 26 = .ok (.getfield 120, 3) := by decide +kernel
theorem dX10_reading_29 : decode cX10_reading 29 = .ok (.aload_n 0, 1) := by decide +kernel
theorem dX10_reading_30 : decode cX10_reading 30 = .ok (.getfield 283, 3) := by decide +kernel
theorem dX10_reading_33 : decode cX10_reading 33 = .ok (.iaload, 1) := by decide +kernel
theorem dX10_reading_34 : decode cX10_reading 34 = .ok (.iastore, 1) := by decide +kernel
theorem dX10_reading_35 : decode cX10_reading 35 = .ok (.aload_n 0, 1) := by decide +kernel
theorem dX10_reading_36 : decode cX10_reading 36 = .ok (.getfield 138, 3) := by decide +kernel
theorem dX10_reading_39 : decode cX10_reading 39 = .ok (.iload_n 1, 1) := by decide +kernel
theorem dX10_reading_40 : decode cX10_reading 40 = .ok (.aload_n 0, 1) := by decide +kernel
theorem dX10_reading_41 : decode cX10_reading 41 = .ok (.getfield 138, 3) := by decide +kernel
theorem dX10_reading_44 : decode cX10_reading 44 = .ok (.aload_n 0, 1) := by decide +kernel
theorem dX10_reading_45 : decode cX10_reading 45 = .ok (.getfield 283, 3) := by decide +kernel
theorem dX10_reading_48 : decode cX10_reading 48 = .ok (.iaload, 1) := by decide +kernel
theorem dX10_reading_49 : decode cX10_reading 49 = .ok (.iastore, 1) := by decide +kernel
theorem dX10_reading_50 : decode cX10_reading 50 = .ok (.iconst 0, 1) := by decide +kernel
theorem dX10_reading_51 : decode cX10_reading 51 = .ok (.istore_n 2, 1) := by decide +kernel
theorem dX10_reading_52 : decode cX10_reading 52 = .ok (.iload_n 2, 1) := by decide +kernel
theorem dX10_reading_53 : decode cX10_reading 53 = .ok (.bipush 16, 2) := by decide +kernel
theorem dX10_reading_55 : decode cX10_reading 55 = .ok (.if_icmp .ge 59, 3) := by decide +kernel
theorem dX10_reading_58 : decode cX10_reading 58 = .ok (.bipush 16, 2) := by decide +kernel
theorem dX10_reading_60 : decode cX10_reading 60 = .ok (.aload_n 0, 1) := by decide +kernel
theorem dX10_reading_61 : decode cX10_reading 61 = .ok (.getfield 283, 3) := by decide +kernel
theorem dX10_reading_64 : decode cX10_reading 64 = .ok (.imul, 1) := by decide +kernel
theorem dX10_reading_65 : decode cX10_reading 65 = .ok (.iload_n 2, 1) := by decide +kernel
theorem dX10_reading_66 : decode cX10_reading 66 = .ok (.iadd, 1) := by decide +kernel
theorem dX10_reading_67 : decode cX10_reading 67 = .ok (.istore_n 3, 1) := by decide +kernel
theorem dX10_reading_68 : decode cX10_reading 68 = .ok (.aload_n 0, 1) := by decide +kernel
theorem dX10_reading_69 : decode cX10_reading 69 = .ok (.bipush 16, 2) := by decide +kernel
theorem dX10_reading_71 : decode cX10_reading 71 = .ok (.iload_n 1, 1) := by decide +kernel
theorem dX10_reading_72 : decode cX10_reading 72 = .ok (.imul, 1) := by decide +kernel
theorem dX10_reading_73 : decode cX10_reading 73 = .ok (.iload_n 2, 1) := by decide +kernel
theorem dX10_reading_74 : decode cX10_reading 74 = .ok (.iadd, 1) := by decide +kernel
theorem dX10_reading_75 : decode cX10_reading 75 = .ok (.aload_n 0, 1) := by decide +kernel
theorem dX10_reading_76 : decode cX10_reading 76 = .ok (.getfield 123, 3) := by decide +kernel
theorem dX10_reading_79 : decode cX10_reading 79 = .ok (.iload_n 3, 1) := by decide +kernel
theorem dX10_reading_80 : decode cX10_reading 80 = .ok (.iaload, 1) := by decide +kernel
theorem dX10_reading_81 : decode cX10_reading 81 = .ok (.aload_n 0, 1) := by decide +kernel
theorem dX10_reading_82 : decode cX10_reading 82 = .ok (.getfield 126, 3) := by decide +kernel
theorem dX10_reading_85 : decode cX10_reading 85 = .ok (.iload_n 3, 1) := by decide +kernel
theorem dX10_reading_86 : decode cX10_reading 86 = .ok (.iaload, 1) := by decide +kernel
theorem dX10_reading_87 : decode cX10_reading 87 = .ok (.aload_n 0, 1) := by decide +kernel
theorem dX10_reading_88 : decode cX10_reading 88 = .ok (.getfield 129, 3) := by decide +kernel
theorem dX10_reading_91 : decode cX10_reading 91 = .ok (.iload_n 3, 1) := by decide +kernel
theorem dX10_reading_92 : decode cX10_reading 92 = .ok (.iaload, 1) := by decide +kernel
theorem dX10_reading_93 : decode cX10_reading 93 = .ok (.aload_n 0, 1) := by decide +kernel
theorem dX10_reading_94 : decode cX10_reading 94 = .ok (.getfield 132, 3) := by decide +kernel
theorem dX10_reading_97 : decode cX10_reading 97 = .ok (.iload_n 3, 1) := by decide +kernel
theorem dX10_reading_98 : decode cX10_reading 98 = .ok (.baload, 1) := by decide +kernel
theorem dX10_reading_99 : decode cX10_reading 99 = .ok (.aload_n 0, 1) := by decide +kernel
theorem dX10_reading_100 : decode cX10_reading 100 = .ok (.getfield 135, 3) := by decide +kernel
theorem dX10_reading_103 : decode cX10_reading 103 = .ok (.iload_n 3, 1) := by decide +kernel
theorem dX10_reading_104 : decode cX10_reading 104 = .ok (.baload, 1) := by decide +kernel
theorem dX10_reading_105 : decode cX10_reading 105 = .ok (.invokevirtual 286, 3) := by decide +kernel
theorem dX10_reading_108 : decode cX10_reading 108 = .ok (.iinc 2 1, 3) := by decide +kernel
theorem dX10_reading_111 : decode cX10_reading 111 = .ok (.goto (-59), 3) := by decide +kernel
theorem dX10_reading_114 : decode cX10_reading 114 = .ok (.iconst 0, 1) := by decide +kernel
theorem dX10_reading_115 : decode cX10_reading 115 = .ok (.istore_n 2, 1) := by decide +kernel
theorem dX10_reading_116 : decode cX10_reading 116 = .ok (.iload_n 2, 1) := by decide +kernel
theorem dX10_reading_117 : decode cX10_reading 117 = .ok (.sipush 240, 3) := by decide +kernel
theorem dX10_reading_120 : decode cX10_reading 120 = .ok (.if_icmp .ge 36, 3) := by decide +kernel
theorem dX10_reading_123 : decode cX10_reading 123 = .ok (.aload_n 0, 1) := by decide +kernel
theorem dX10_reading_124 : decode cX10_reading 124 = .ok (.getfield 141, 3) := by decide +kernel
theorem dX10_reading_127 : decode cX10_reading 127 = .ok (.sipush 240, 3) := by decide +kernel
theorem dX10_reading_130 : decode cX10_reading 130 = .ok (.iload_n 1, 1) := by decide +kernel
theorem dX10_reading_131 : decode cX10_reading 131 = .ok (.imul, 1) := by decide +kernel
theorem dX10_reading_132 : decode cX10_reading 132 = .ok (.iload_n 2, 1) := by decide +kernel
theorem dX10_reading_133 : decode cX10_reading 133 = .ok (.iadd, 1) := by decide +kernel
theorem dX10_reading_134 : decode cX10_reading 134 = .ok (.aload_n 0, 1) := by decide +kernel
theorem dX10_reading_135 : decode cX10_reading 135 = .ok (.getfield 141, 3) := by decide +kernel
theorem dX10_reading_138 : decode cX10_reading 138 = .ok (.sipush 240, 3) := by decide +kernel
theorem dX10_reading_141 : decode cX10_reading 141 = .ok (.aload_n 0, 1) := by decide +kernel
theorem dX10_reading_142 : decode cX10_reading 142 = .ok (.getfield 283, 3) := by decide +kernel
theorem dX10_reading_145 : decode cX10_reading 145 = .ok (.imul, 1) := by decide +kernel
theorem dX10_reading_146 : decode cX10_reading 146 = .ok (.iload_n 2, 1) := by decide +kernel
theorem dX10_reading_147 : decode cX10_reading 147 = .ok (.iadd, 1) := by decide +kernel
theorem dX10_reading_148 : decode cX10_reading 148 = .ok (.iaload, 1) := by decide +kernel
theorem dX10_reading_149 : decode cX10_reading 149 = .ok (.iastore, 1) := by decide +kernel
theorem dX10_reading_150 : decode cX10_reading 150 = .ok (.iinc 2 1, 3) := by decide +kernel
theorem dX10_reading_153 : decode cX10_reading 153 = .ok (.goto (-37), 3) := by decide +kernel
theorem dX10_reading_156 : decode cX10_reading 156 = .ok (.aload_n 0, 1) := by decide +kernel
theorem dX10_reading_157 : decode cX10_reading 157 = .ok (.dup, 1) := by decide +kernel
theorem dX10_reading_158 : decode cX10_reading 158 = .ok (.getfield 117, 3) := by decide +kernel
theorem dX10_reading_161 : decode cX10_reading 161 = .ok (.iconst 1, 1) := by decide +kernel
theorem dX10_reading_162 : decode cX10_reading 162 = .ok (.iadd, 1) := by decide +kernel
theorem dX10_reading_163 : decode cX10_reading 163 = .ok (.putfield 117, 3) := by decide +kernel
theorem dX10_reading_166 : decode cX10_reading 166 = .ok (.aload_n 0, 1) := by decide +kernel
theorem dX10_reading_167 : decode cX10_reading 167 = .ok (.iload_n 1, 1) := by decide +kernel
theorem dX10_reading_168 : decode cX10_reading 168 = .ok (.putfield 283, 3) := by decide +kernel
theorem dX10_reading_171 : decode cX10_reading 171 = .ok (.iload_n 1, 1) := by decide +kernel
theorem dX10_reading_172 : decode cX10_reading 172 = .ok (.ireturn, 1) := by decide +kernel
theorem dX10_isReading_0 : decode cX10_isReading 0 = .ok (.iload_n 1, 1) := by decide +kernel
theorem dX10_isReading_1 : decode cX10_isReading 1 = .ok (.ifCond .lt 15, 3) := by decide +kernel
theorem dX10_isReading_4 : decode cX10_isReading 4 = .ok (.iload_n 1, 1) := by decide +kernel
theorem dX10_isReading_5 : decode cX10_isReading 5 = .ok (.aload_n 0, 1) := by decide +kernel
theorem dX10_isReading_6 : decode cX10_isReading 6 = .ok (.getfield 117, 3) := by decide +kernel
theorem dX10_isReading_9 : decode cX10_isReading 9 = .ok (.if_icmp .ge 7, 3) := by decide +kernel
theorem dX10_isReading_12 : decode cX10_isReading 12 = .ok (.iconst 1, 1) := by decide +kernel
theorem dX10_isReading_13 : decode cX10_isReading 13 = .ok (.goto 4, 3) := by decide +kernel
theorem dX10_isReading_16 : decode cX10_isReading 16 = .ok (.iconst 0, 1) := by decide +kernel
theorem dX10_isReading_17 : decode cX10_isReading 17 = .ok (.ireturn, 1) := by decide +kernel
theorem dX10_take_0 : decode cX10_take 0 = .ok (.aload_n 0, 1) := by decide +kernel
theorem dX10_take_1 : decode cX10_take 1 = .ok (.iconst 0, 1) := by decide +kernel
theorem dX10_take_2 : decode cX10_take 2 = .ok (.putfield 1, 3) := by decide +kernel
theorem dX10_take_5 : decode cX10_take 5 = .ok (.aload_n 0, 1) := by decide +kernel
theorem dX10_take_6 : decode cX10_take 6 = .ok (.iload_n 1, 1) := by decide +kernel
theorem dX10_take_7 : decode cX10_take 7 = .ok (.invokevirtual 290, 3) := by decide +kernel
theorem dX10_take_10 : decode cX10_take 10 = .ok (.ifCond .ne 5, 3) := by decide +kernel
theorem dX10_take_13 : decode cX10_take 13 = .ok (.iconst 0, 1) := by decide +kernel
theorem dX10_take_14 : decode cX10_take 14 = .ok (.ireturn, 1) := by decide +kernel
theorem dX10_take_15 : decode cX10_take 15 = .ok (.aload_n 0, 1) := by decide +kernel
theorem dX10_take_16 : decode cX10_take 16 = .ok (.iload_n 1, 1) := by decide +kernel
theorem dX10_take_17 : decode cX10_take 17 = .ok (.putfield 283, 3) := by decide +kernel
theorem dX10_take_20 : decode cX10_take 20 = .ok (.iconst 1, 1) := by decide +kernel
theorem dX10_take_21 : decode cX10_take 21 = .ok (.ireturn, 1) := by decide +kernel
theorem dX10_tune_0 : decode cX10_tune 0 = .ok (.aload_n 0, 1) := by decide +kernel
theorem dX10_tune_1 : decode cX10_tune 1 = .ok (.iconst 0, 1) := by decide +kernel
theorem dX10_tune_2 : decode cX10_tune 2 = .ok (.putfield 1, 3) := by decide +kernel
theorem dX10_tune_5 : decode cX10_tune 5 = .ok (.iload_n 1, 1) := by decide +kernel
theorem dX10_tune_6 : decode cX10_tune 6 = .ok (.ifCond .lt 8, 3) := by decide +kernel
theorem dX10_tune_9 : decode cX10_tune 9 = .ok (.iload_n 1, 1) := by decide +kernel
theorem dX10_tune_10 : decode cX10_tune 10 = .ok (.iconst 3, 1) := by decide +kernel
theorem dX10_tune_11 : decode cX10_tune 11 = .ok (.if_icmp .le 5, 3) := by decide +kernel
theorem dX10_tune_14 : decode cX10_tune 14 = .ok (.iconst 0, 1) := by decide +kernel
theorem dX10_tune_15 : decode cX10_tune 15 = .ok (.ireturn, 1) := by decide +kernel
theorem dX10_tune_16 : decode cX10_tune 16 = .ok (.aload_n 0, 1) := by decide +kernel
theorem dX10_tune_17 : decode cX10_tune 17 = .ok (.getfield 138, 3) := by decide +kernel
theorem dX10_tune_20 : decode cX10_tune 20 = .ok (.aload_n 0, 1) := by decide +kernel
theorem dX10_tune_21 : decode cX10_tune 21 = .ok (.getfield 283, 3) := by decide +kernel
theorem dX10_tune_24 : decode cX10_tune 24 = .ok (.iload_n 1, 1) := by decide +kernel
theorem dX10_tune_25 : decode cX10_tune 25 = .ok (.iastore, 1) := by decide +kernel
theorem dX10_tune_26 : decode cX10_tune 26 = .ok (.iconst 1, 1) := by decide +kernel
theorem dX10_tune_27 : decode cX10_tune 27 = .ok (.ireturn, 1) := by decide +kernel
theorem dX10_ideal_0 : decode cX10_ideal 0 = .ok (.aload_n 0, 1) := by decide +kernel
theorem dX10_ideal_1 : decode cX10_ideal 1 = .ok (.iconst 0, 1) := by decide +kernel
theorem dX10_ideal_2 : decode cX10_ideal 2 = .ok (.putfield 1, 3) := by decide +kernel
theorem dX10_ideal_5 : decode cX10_ideal 5 = .ok (.iload_n 1, 1) := by decide +kernel
theorem dX10_ideal_6 : decode cX10_ideal 6 = .ok (.iconst 1, 1) := by decide +kernel
theorem dX10_ideal_7 : decode cX10_ideal 7 = .ok (.if_icmp .lt 9, 3) := by decide +kernel
theorem dX10_ideal_10 : decode cX10_ideal 10 = .ok (.iload_n 1, 1) := by decide +kernel
theorem dX10_ideal_11 : decode cX10_ideal 11 = .ok (.bipush 20, 2) := by decide +kernel
theorem dX10_ideal_13 : decode cX10_ideal 13 = .ok (.if_icmp .le 5, 3) := by decide +kernel
theorem dX10_ideal_16 : decode cX10_ideal 16 = .ok (.iconst 0, 1) := by decide +kernel
theorem dX10_ideal_17 : decode cX10_ideal 17 = .ok (.ireturn, 1) := by decide +kernel
theorem dX10_ideal_18 : decode cX10_ideal 18 = .ok (.aload_n 0, 1) := by decide +kernel
theorem dX10_ideal_19 : decode cX10_ideal 19 = .ok (.iload_n 1, 1) := by decide +kernel
theorem dX10_ideal_20 : decode cX10_ideal 20 = .ok (.putfield 144, 3) := by decide +kernel
theorem dX10_ideal_23 : decode cX10_ideal 23 = .ok (.iconst 1, 1) := by decide +kernel
theorem dX10_ideal_24 : decode cX10_ideal 24 = .ok (.ireturn, 1) := by decide +kernel
theorem dX10_speed_0 : decode cX10_speed 0 = .ok (.aload_n 0, 1) := by decide +kernel
theorem dX10_speed_1 : decode cX10_speed 1 = .ok (.iconst 0, 1) := by decide +kernel
theorem dX10_speed_2 : decode cX10_speed 2 = .ok (.putfield 1, 3) := by decide +kernel
theorem dX10_speed_5 : decode cX10_speed 5 = .ok (.iload_n 1, 1) := by decide +kernel
theorem dX10_speed_6 : decode cX10_speed 6 = .ok (.iconst 1, 1) := by decide +kernel
theorem dX10_speed_7 : decode cX10_speed 7 = .ok (.if_icmp .lt 20, 3) := by decide +kernel
theorem dX10_speed_10 : decode cX10_speed 10 = .ok (.iload_n 1, 1) := by decide +kernel
theorem dX10_speed_11 : decode cX10_speed 11 = .ok (.bipush 100, 2) := by decide +kernel
theorem dX10_speed_13 : decode cX10_speed 13 = .ok (.if_icmp .gt 14, 3) := by decide +kernel
theorem dX10_speed_16 : decode cX10_speed 16 = .ok (.iload_n 2, 1) := by decide +kernel
theorem dX10_speed_17 : decode cX10_speed 17 = .ok (.iconst 1, 1) := by decide +kernel
theorem dX10_speed_18 : decode cX10_speed 18 = .ok (.if_icmp .lt 9, 3) := by decide +kernel
theorem dX10_speed_21 : decode cX10_speed 21 = .ok (.iload_n 2, 1) := by decide +kernel
theorem dX10_speed_22 : decode cX10_speed 22 = .ok (.bipush 100, 2) := by decide +kernel
theorem dX10_speed_24 : decode cX10_speed 24 = .ok (.if_icmp .le 5, 3) := by decide +kernel
theorem dX10_speed_27 : decode cX10_speed 27 = .ok (.iconst 0, 1) := by decide +kernel
theorem dX10_speed_28 : decode cX10_speed 28 = .ok (.ireturn, 1) := by decide +kernel
theorem dX10_speed_29 : decode cX10_speed 29 = .ok (.aload_n 0, 1) := by decide +kernel
theorem dX10_speed_30 : decode cX10_speed 30 = .ok (.iload_n 1, 1) := by decide +kernel
theorem dX10_speed_31 : decode cX10_speed 31 = .ok (.putfield 147, 3) := by decide +kernel
theorem dX10_speed_34 : decode cX10_speed 34 = .ok (.aload_n 0, 1) := by decide +kernel
theorem dX10_speed_35 : decode cX10_speed 35 = .ok (.iload_n 2, 1) := by decide +kernel
theorem dX10_speed_36 : decode cX10_speed 36 = .ok (.putfield 150, 3) := by decide +kernel
theorem dX10_speed_39 : decode cX10_speed 39 = .ok (.iconst 1, 1) := by decide +kernel
theorem dX10_speed_40 : decode cX10_speed 40 = .ok (.ireturn, 1) := by decide +kernel
theorem dX10_soundsOf_0 : decode cX10_soundsOf 0 = .ok (.iconst 0, 1) := by decide +kernel
theorem dX10_soundsOf_1 : decode cX10_soundsOf 1 = .ok (.istore_n 2, 1) := by decide +kernel
theorem dX10_soundsOf_2 : decode cX10_soundsOf 2 = .ok (.bipush 16, 2) := by decide +kernel
theorem dX10_soundsOf_4 : decode cX10_soundsOf 4 = .ok (.iload_n 1, 1) := by decide +kernel
theorem dX10_soundsOf_5 : decode cX10_soundsOf 5 = .ok (.imul, 1) := by decide +kernel
theorem dX10_soundsOf_6 : decode cX10_soundsOf 6 = .ok (.istore_n 3, 1) := by decide +kernel
theorem dX10_soundsOf_7 : decode cX10_soundsOf 7 = .ok (.iload_n 3, 1) := by decide +kernel
theorem dX10_soundsOf_8 : decode cX10_soundsOf 8 = .ok (.bipush 16, 2) := by decide +kernel
theorem dX10_soundsOf_10 : decode cX10_soundsOf 10 = .ok (.iload_n 1, 1) := by decide +kernel
theorem dX10_soundsOf_11 : decode cX10_soundsOf 11 = .ok (.imul, 1) := by decide +kernel
theorem dX10_soundsOf_12 : decode cX10_soundsOf 12 = .ok (.aload_n 0, 1) := by decide +kernel
theorem dX10_soundsOf_13 : decode cX10_soundsOf 13 = .ok (.getfield 120, 3) := by decide +kernel
theorem dX10_soundsOf_16 : decode cX10_soundsOf 16 = .ok (.iload_n 1, 1) := by decide +kernel
theorem dX10_soundsOf_17 : decode cX10_soundsOf 17 = .ok (.iaload, 1) := by decide +kernel
theorem dX10_soundsOf_18 : decode cX10_soundsOf 18 = .ok (.iadd, 1) := by decide +kernel
theorem dX10_soundsOf_19 : decode cX10_soundsOf 19 = .ok (.if_icmp .ge 18, 3) := by decide +kernel
theorem dX10_soundsOf_22 : decode cX10_soundsOf 22 = .ok (.iload_n 2, 1) := by decide +kernel
theorem dX10_soundsOf_23 : decode cX10_soundsOf 23 = .ok (.aload_n 0, 1) := by decide +kernel
theorem dX10_soundsOf_24 : decode cX10_soundsOf 24 = .ok (.getfield 123, 3) := by decide +kernel
theorem dX10_soundsOf_27 : decode cX10_soundsOf 27 = .ok (.iload_n 3, 1) := by decide +kernel
theorem dX10_soundsOf_28 : decode cX10_soundsOf 28 = .ok (.iaload, 1) := by decide +kernel
theorem dX10_soundsOf_29 : decode cX10_soundsOf 29 = .ok (.iadd, 1) := by decide +kernel
theorem dX10_soundsOf_30 : decode cX10_soundsOf 30 = .ok (.istore_n 2, 1) := by decide +kernel
theorem dX10_soundsOf_31 : decode cX10_soundsOf 31 = .ok (.iinc 3 1, 3) := by decide +kernel
theorem dX10_soundsOf_34 : decode cX10_soundsOf 34 = .ok (.goto (-27), 3) := by decide +kernel
theorem dX10_soundsOf_37 : decode cX10_soundsOf 37 = .ok (.iload_n 2, 1) := by decide +kernel
theorem dX10_soundsOf_38 : decode cX10_soundsOf 38 = .ok (.ireturn, 1) := by decide +kernel
theorem dX10_hand_0 : decode cX10_hand 0 = .ok (.aload_n 0, 1) := by decide +kernel
theorem dX10_hand_1 : decode cX10_hand 1 = .ok (.iconst 0, 1) := by decide +kernel
theorem dX10_hand_2 : decode cX10_hand 2 = .ok (.putfield 1, 3) := by decide +kernel
theorem dX10_hand_5 : decode cX10_hand 5 = .ok (.iload_n 2, 1) := by decide +kernel
theorem dX10_hand_6 : decode cX10_hand 6 = .ok (.ifCond .ne 7, 3) := by decide +kernel
theorem dX10_hand_9 : decode cX10_hand 9 = .ok (.iconst 1, 1) := by decide +kernel
theorem dX10_hand_10 : decode cX10_hand 10 = .ok (.goto 4, 3) := by decide +kernel
theorem dX10_hand_13 : decode cX10_hand 13 = .ok (.iconst 0, 1) := by decide +kernel
theorem dX10_hand_14 : decode cX10_hand 14 = .ok (.istore 4, 2) := by decide +kernel
theorem dX10_hand_16 : decode cX10_hand 16 = .ok (.iload_n 2, 1) := by decide +kernel
theorem dX10_hand_17 : decode cX10_hand 17 = .ok (.iconst 2, 1) := by decide +kernel
theorem dX10_hand_18 : decode cX10_hand 18 = .ok (.if_icmp .ne 8, 3) := by decide +kernel
theorem dX10_hand_21 : decode cX10_hand 21 = .ok (.bipush 9, 2) := by decide +kernel
theorem dX10_hand_23 : decode cX10_hand 23 = .ok (.goto 5, 3) := by decide +kernel
theorem dX10_hand_26 : decode cX10_hand 26 = .ok (.bipush 99, 2) := by decide +kernel
theorem dX10_hand_28 : decode cX10_hand 28 = .ok (.istore 5, 2) := by decide +kernel
theorem dX10_hand_30 : decode cX10_hand 30 = .ok (.iload_n 1, 1) := by decide +kernel
theorem dX10_hand_31 : decode cX10_hand 31 = .ok (.ifCond .lt 41, 3) := by decide +kernel
theorem dX10_hand_34 : decode cX10_hand 34 = .ok (.iload_n 1, 1) := by decide +kernel
theorem dX10_hand_35 : decode cX10_hand 35 = .ok (.aload_n 0, 1) := by decide +kernel
theorem dX10_hand_36 : decode cX10_hand 36 = .ok (.aload_n 0, 1) := by decide +kernel
theorem dX10_hand_37 : decode cX10_hand 37 = .ok (.getfield 283, 3) := by decide +kernel
theorem dX10_hand_40 : decode cX10_hand 40 = .ok (.invokevirtual 293, 3) := by decide +kernel
theorem dX10_hand_43 : decode cX10_hand 43 = .ok (.if_icmp .ge 29, 3) := by decide +kernel
theorem dX10_hand_46 : decode cX10_hand 46 = .ok (.iload_n 2, 1) := by decide +kernel
theorem dX10_hand_47 : decode cX10_hand 47 = .ok (.ifCond .lt 25, 3) := by decide +kernel
theorem dX10_hand_50 : decode cX10_hand 50 = .ok (.iload_n 2, 1) := by decide +kernel
theorem dX10_hand_51 : decode cX10_hand 51 = .ok (.iconst 2, 1) := by decide +kernel
theorem dX10_hand_52 : decode cX10_hand 52 = .ok (.if_icmp .gt 20, 3) := by decide +kernel
theorem dX10_hand_55 : decode cX10_hand 55 = .ok (.iload_n 3, 1) := by decide +kernel
theorem dX10_hand_56 : decode cX10_hand 56 = .ok (.iconst (-1), 1) := by decide +kernel
theorem dX10_hand_57 : decode cX10_hand 57 = .ok (.if_icmp .eq 17, 3) := by decide +kernel
theorem dX10_hand_60 : decode cX10_hand 60 = .ok (.iload_n 3, 1) := by decide +kernel
theorem dX10_hand_61 : decode cX10_hand 61 = .ok (.iload 4, 2) := by decide +kernel
theorem dX10_hand_63 : decode cX10_hand 63 = .ok (.if_icmp .lt 9, 3) := by decide +kernel
theorem dX10_hand_66 : decode cX10_hand 66 = .ok (.iload_n 3, 1) := by decide +kernel
theorem dX10_hand_67 : decode cX10_hand 67 = .ok (.iload 5, 2) := by decide +kernel
theorem dX10_hand_69 : decode cX10_hand 69 = .ok (.if_icmp .le 5, 3) := by decide +kernel
theorem dX10_hand_72 : decode cX10_hand 72 = .ok (.iconst 0, 1) := by decide +kernel
theorem dX10_hand_73 : decode cX10_hand 73 = .ok (.ireturn, 1) := by decide +kernel
theorem dX10_hand_74 : decode cX10_hand 74 = .ok (.aload_n 0, 1) := by decide +kernel
theorem dX10_hand_75 : decode cX10_hand 75 = .ok (.getfield 141, 3) := by decide +kernel
theorem dX10_hand_78 : decode cX10_hand 78 = .ok (.iconst 3, 1) := by decide +kernel
theorem dX10_hand_79 : decode cX10_hand 79 = .ok (.bipush 80, 2) := by decide +kernel
theorem dX10_hand_81 : decode cX10_hand 81 = .ok (.aload_n 0, 1) := by decide +kernel
theorem dX10_hand_82 : decode cX10_hand 82 = .ok (.getfield 283, 3) := by decide +kernel
theorem dX10_hand_85 : decode cX10_hand 85 = .ok (.imul, 1) := by decide +kernel
theorem dX10_hand_86 : decode cX10_hand 86 = .ok (.iload_n 1, 1) := by decide +kernel
theorem dX10_hand_87 : decode cX10_hand 87 = .ok (.iadd, 1) := by decide +kernel
theorem dX10_hand_88 : decode cX10_hand 88 = .ok (.imul, 1) := by decide +kernel
theorem dX10_hand_89 : decode cX10_hand 89 = .ok (.iload_n 2, 1) := by decide +kernel
theorem dX10_hand_90 : decode cX10_hand 90 = .ok (.iadd, 1) := by decide +kernel
theorem dX10_hand_91 : decode cX10_hand 91 = .ok (.iload_n 3, 1) := by decide +kernel
theorem dX10_hand_92 : decode cX10_hand 92 = .ok (.iastore, 1) := by decide +kernel
theorem dX10_hand_93 : decode cX10_hand 93 = .ok (.iconst 1, 1) := by decide +kernel
theorem dX10_hand_94 : decode cX10_hand 94 = .ok (.ireturn, 1) := by decide +kernel
theorem dX10_costOf_0 : decode cX10_costOf 0 = .ok (.iconst 0, 1) := by decide +kernel
theorem dX10_costOf_1 : decode cX10_costOf 1 = .ok (.istore 4, 2) := by decide +kernel
theorem dX10_costOf_3 : decode cX10_costOf 3 = .ok (.bipush 16, 2) := by decide +kernel
theorem dX10_costOf_5 : decode cX10_costOf 5 = .ok (.iload_n 1, 1) := by decide +kernel
theorem dX10_costOf_6 : decode cX10_costOf 6 = .ok (.imul, 1) := by decide +kernel
theorem dX10_costOf_7 : decode cX10_costOf 7 = .ok (.iload_n 2, 1) := by decide +kernel
theorem dX10_costOf_8 : decode cX10_costOf 8 = .ok (.iadd, 1) := by decide +kernel
theorem dX10_costOf_9 : decode cX10_costOf 9 = .ok (.istore 5, 2) := by decide +kernel
theorem dX10_costOf_11 : decode cX10_costOf 11 = .ok (.iload 5, 2) := by decide +kernel
theorem dX10_costOf_13 : decode cX10_costOf 13 = .ok (.bipush 16, 2) := by decide +kernel
theorem dX10_costOf_15 : decode cX10_costOf 15 = .ok (.iload_n 1, 1) := by decide +kernel
theorem dX10_costOf_16 : decode cX10_costOf 16 = .ok (.imul, 1) := by decide +kernel
theorem dX10_costOf_17 : decode cX10_costOf 17 = .ok (.iload_n 3, 1) := by decide +kernel
theorem dX10_costOf_18 : decode cX10_costOf 18 = .ok (.iadd, 1) := by decide +kernel
theorem dX10_costOf_19 : decode cX10_costOf 19 = .ok (.if_icmp .ge 21, 3) := by decide +kernel
theorem dX10_costOf_22 : decode cX10_costOf 22 = .ok (.iload 4, 2) := by decide +kernel
theorem dX10_costOf_24 : decode cX10_costOf 24 = .ok (.aload_n 0, 1) := by decide +kernel
theorem dX10_costOf_25 : decode cX10_costOf 25 = .ok (.getfield 123, 3) := by decide +kernel
theorem dX10_costOf_28 : decode cX10_costOf 28 = .ok (.iload 5, 2) := by decide +kernel
theorem dX10_costOf_30 : decode cX10_costOf 30 = .ok (.iaload, 1) := by decide +kernel
theorem dX10_costOf_31 : decode cX10_costOf 31 = .ok (.iadd, 1) := by decide +kernel
theorem dX10_costOf_32 : decode cX10_costOf 32 = .ok (.istore 4, 2) := by decide +kernel
theorem dX10_costOf_34 : decode cX10_costOf 34 = .ok (.iinc 5 1, 3) := by decide +kernel
theorem dX10_costOf_37 : decode cX10_costOf 37 = .ok (.goto (-26), 3) := by decide +kernel
theorem dX10_costOf_40 : decode cX10_costOf 40 = .ok (.iload 4, 2) := by decide +kernel
theorem dX10_costOf_42 : decode cX10_costOf 42 = .ok (.aload_n 0, 1) := by decide +kernel
theorem dX10_costOf_43 : decode cX10_costOf 43 = .ok (.getfield 144, 3) := by decide +kernel
theorem dX10_costOf_46 : decode cX10_costOf 46 = .ok (.isub, 1) := by decide +kernel
theorem dX10_costOf_47 : decode cX10_costOf 47 = .ok (.iload 4, 2) := by decide +kernel
theorem dX10_costOf_49 : decode cX10_costOf 49 = .ok (.aload_n 0, 1) := by decide +kernel
theorem dX10_costOf_50 : decode cX10_costOf 50 = .ok (.getfield 144, 3) := by decide +kernel
theorem dX10_costOf_53 : decode cX10_costOf 53 = .ok (.isub, 1) := by decide +kernel
theorem dX10_costOf_54 : decode cX10_costOf 54 = .ok (.imul, 1) := by decide +kernel
theorem dX10_costOf_55 : decode cX10_costOf 55 = .ok (.iload_n 3, 1) := by decide +kernel
theorem dX10_costOf_56 : decode cX10_costOf 56 = .ok (.aload_n 0, 1) := by decide +kernel
theorem dX10_costOf_57 : decode cX10_costOf 57 = .ok (.getfield 120, 3) := by decide +kernel
theorem dX10_costOf_60 : decode cX10_costOf 60 = .ok (.iload_n 1, 1) := by decide +kernel
theorem dX10_costOf_61 : decode cX10_costOf 61 = .ok (.iaload, 1) := by decide +kernel
theorem dX10_costOf_62 : decode cX10_costOf 62 = .ok (.if_icmp .ge 21, 3) := by decide +kernel
theorem dX10_costOf_65 : decode cX10_costOf 65 = .ok (.iconst 1, 1) := by decide +kernel
theorem dX10_costOf_66 : decode cX10_costOf 66 = .ok (.aload_n 0, 1) := by decide +kernel
theorem dX10_costOf_67 : decode cX10_costOf 67 = .ok (.getfield 129, 3) := by decide +kernel
theorem dX10_costOf_70 : decode cX10_costOf 70 = .ok (.bipush 16, 2) := by decide +kernel
theorem dX10_costOf_72 : decode cX10_costOf 72 = .ok (.iload_n 1, 1) := by decide +kernel
theorem dX10_costOf_73 : decode cX10_costOf 73 = .ok (.imul, 1) := by decide +kernel
theorem dX10_costOf_74 : decode cX10_costOf 74 = .ok (.iload_n 3, 1) := by decide +kernel
theorem dX10_costOf_75 : decode cX10_costOf 75 = .ok (.iadd, 1) := by decide +kernel
theorem dX10_costOf_76 : decode cX10_costOf 76 = .ok (.iconst 1, 1) := by decide +kernel
theorem dX10_costOf_77 : decode cX10_costOf 77 = .ok (.isub, 1) := by decide +kernel
theorem dX10_costOf_78 : decode cX10_costOf 78 = .ok (.iaload, 1) := by decide +kernel
theorem dX10_costOf_79 : decode cX10_costOf 79 = .ok (.iadd, 1) := by decide +kernel
theorem dX10_costOf_80 : decode cX10_costOf 80 = .ok (.goto 4, 3) := by decide +kernel
theorem dX10_costOf_83 : decode cX10_costOf 83 = .ok (.iconst 0, 1) := by decide +kernel
theorem dX10_costOf_84 : decode cX10_costOf 84 = .ok (.iadd, 1) := by decide +kernel
theorem dX10_costOf_85 : decode cX10_costOf 85 = .ok (.ireturn, 1) := by decide +kernel
theorem dX10_findPhrases_0 : decode cX10_findPhrases 0 = .ok (.aload_n 0, 1) := by decide +kernel
theorem dX10_findPhrases_1 : decode cX10_findPhrases 1 = .ok (.getfield 153, 3) := by decide +kernel
theorem dX10_findPhrases_4 : decode cX10_findPhrases 4 = .ok (.aload_n 0, 1) := by decide +kernel
theorem dX10_findPhrases_5 : decode cX10_findPhrases 5 = .ok (.getfield 120, 3) := by decide +kernel
theorem dX10_findPhrases_8 : decode cX10_findPhrases 8 = .ok (.iload_n 1, 1) := by decide +kernel
theorem dX10_findPhrases_9 : decode cX10_findPhrases 9 = .ok (.iaload, 1) := by decide +kernel
theorem dX10_findPhrases_10 : decode cX10_findPhrases 10 = .ok (.iconst 0, 1) := by decide +kernel
theorem dX10_findPhrases_11 : decode cX10_findPhrases 11 = .ok (.iastore, 1) := by decide +kernel
theorem dX10_findPhrases_12 : decode cX10_findPhrases 12 = .ok (.aload_n 0, 1) := by decide +kernel
theorem dX10_findPhrases_13 : decode cX10_findPhrases 13 = .ok (.getfield 120, 3) := by decide +kernel
theorem dX10_findPhrases_16 : decode cX10_findPhrases 16 = .ok (.iload_n 1, 1) := by decide +kernel
theorem dX10_findPhrases_17 : decode cX10_findPhrases 17 = .ok (.iaload, 1) := by decide +kernel
theorem dX10_findPhrases_18 : decode cX10_findPhrases 18 = .ok (.iconst 1, 1) := by decide +kernel
theorem dX10_findPhrases_19 : decode cX10_findPhrases 19 = .ok (.isub, 1) := by decide +kernel
theorem dX10_findPhrases_20 : decode cX10_findPhrases 20 = .ok (.istore_n 2, 1) := by decide +kernel
theorem dX10_findPhrases_21 : decode cX10_findPhrases 21 = .ok (.iload_n 2, 1) := by decide +kernel
theorem dX10_findPhrases_22 : decode cX10_findPhrases 22 = .ok (.ifCond .lt 89, 3) := by decide +kernel
theorem dX10_findPhrases_25 : decode cX10_findPhrases 25 = .ok (.aload_n 0, 1) := by decide +kernel
theorem dX10_findPhrases_26 : decode cX10_findPhrases 26 = .ok (.getfield 153, 3) := by decide +kernel
theorem dX10_findPhrases_29 : decode cX10_findPhrases 29 = .ok (.iload_n 2, 1) := by decide +kernel
theorem dX10_findPhrases_30 : decode cX10_findPhrases 30 = .ok (.iconst (-1), 1) := by decide +kernel
theorem dX10_findPhrases_31 : decode cX10_findPhrases 31 = .ok (.iastore, 1) := by decide +kernel
theorem dX10_findPhrases_32 : decode cX10_findPhrases 32 = .ok (.iload_n 2, 1) := by decide +kernel
theorem dX10_findPhrases_33 : decode cX10_findPhrases 33 = .ok (.iconst 1, 1) := by decide +kernel
theorem dX10_findPhrases_34 : decode cX10_findPhrases 34 = .ok (.iadd, 1) := by decide +kernel
theorem dX10_findPhrases_35 : decode cX10_findPhrases 35 = .ok (.istore_n 3, 1) := by decide +kernel
theorem dX10_findPhrases_36 : decode cX10_findPhrases 36 = .ok (.iload_n 3, 1) := by decide +kernel
theorem dX10_findPhrases_37 : decode cX10_findPhrases 37 = .ok (.aload_n 0, 1) := by decide +kernel
theorem dX10_findPhrases_38 : decode cX10_findPhrases 38 = .ok (.getfield 120, 3) := by decide +kernel
theorem dX10_findPhrases_41 : decode cX10_findPhrases 41 = .ok (.iload_n 1, 1) := by decide +kernel
theorem dX10_findPhrases_42 : decode cX10_findPhrases 42 = .ok (.iaload, 1) := by decide +kernel
theorem dX10_findPhrases_43 : decode cX10_findPhrases 43 = .ok (.if_icmp .gt 62, 3) := by decide +kernel
theorem dX10_findPhrases_46 : decode cX10_findPhrases 46 = .ok (.aload_n 0, 1) := by decide +kernel
theorem dX10_findPhrases_47 : decode cX10_findPhrases 47 = .ok (.iload_n 1, 1) := by decide +kernel
theorem dX10_findPhrases_48 : decode cX10_findPhrases 48 = .ok (.iload_n 2, 1) := by decide +kernel
theorem dX10_findPhrases_49 : decode cX10_findPhrases 49 = .ok (.iload_n 3, 1) := by decide +kernel
theorem dX10_findPhrases_50 : decode cX10_findPhrases 50 = .ok (.invokevirtual 296, 3) := by decide +kernel
theorem dX10_findPhrases_53 : decode cX10_findPhrases 53 = .ok (.aload_n 0, 1) := by decide +kernel
theorem dX10_findPhrases_54 : decode cX10_findPhrases 54 = .ok (.getfield 153, 3) := by decide +kernel
theorem dX10_findPhrases_57 : decode cX10_findPhrases 57 = .ok (.iload_n 3, 1) := by decide +kernel
theorem dX10_findPhrases_58 : decode cX10_findPhrases 58 = .ok (.iaload, 1) := by decide +kernel
theorem dX10_findPhrases_59 : decode cX10_findPhrases 59 = .ok (.iadd, 1) := by decide +kernel
theorem dX10_findPhrases_60 : decode cX10_findPhrases 60 = .ok (.istore 4, 2) := by decide +kernel
theorem dX10_findPhrases_62 : decode cX10_findPhrases 62 = .ok (.aload_n 0, 1) := by decide +kernel
theorem dX10_findPhrases_63 : decode cX10_findPhrases 63 = .ok (.getfield 153, 3) := by decide +kernel
theorem dX10_findPhrases_66 : decode cX10_findPhrases 66 = .ok (.iload_n 2, 1) := by decide +kernel
theorem dX10_findPhrases_67 : decode cX10_findPhrases 67 = .ok (.aload_n 0, 1) := by decide +kernel
theorem dX10_findPhrases_68 : decode cX10_findPhrases 68 = .ok (.getfield 153, 3) := by decide +kernel
theorem dX10_findPhrases_71 : decode cX10_findPhrases 71 = .ok (.iload_n 2, 1) := by decide +kernel
theorem dX10_findPhrases_72 : decode cX10_findPhrases 72 = .ok (.iaload, 1) := by decide +kernel
theorem dX10_findPhrases_73 : decode cX10_findPhrases 73 = .ok (.ifCond .lt 14, 3) := by decide +kernel
theorem dX10_findPhrases_76 : decode cX10_findPhrases 76 = .ok (.iload 4, 2) := by decide +kernel
theorem dX10_findPhrases_78 : decode cX10_findPhrases 78 = .ok (.aload_n 0, 1) := by decide +kernel
theorem dX10_findPhrases_79 : decode cX10_findPhrases 79 = .ok (.getfield 153, 3) := by decide +kernel
theorem dX10_findPhrases_82 : decode cX10_findPhrases 82 = .ok (.iload_n 2, 1) := by decide +kernel
theorem dX10_findPhrases_83 : decode cX10_findPhrases 83 = .ok (.iaload, 1) := by decide +kernel
theorem dX10_findPhrases_84 : decode cX10_findPhrases 84 = .ok (.if_icmp .ge 8, 3) := by decide +kernel
theorem dX10_findPhrases_87 : decode cX10_findPhrases 87 = .ok (.iload 4, 2) := by decide +kernel
theorem dX10_findPhrases_89 : decode cX10_findPhrases 89 = .ok (.goto 9, 3) := by decide +kernel
theorem dX10_findPhrases_92 : decode cX10_findPhrases 92 = .ok (.aload_n 0, 1) := by decide +kernel
theorem dX10_findPhrases_93 : decode cX10_findPhrases 93 = .ok (.getfield 153, 3) := by decide +kernel
theorem dX10_findPhrases_96 : decode cX10_findPhrases 96 = .ok (.iload_n 2, 1) := by decide +kernel
theorem dX10_findPhrases_97 : decode cX10_findPhrases 97 = .ok (.iaload, 1) := by decide +kernel
theorem dX10_findPhrases_98 : decode cX10_findPhrases 98 = .ok (.iastore, 1) := by decide +kernel
theorem dX10_findPhrases_99 : decode cX10_findPhrases 99 = .ok (.iinc 3 1, 3) := by decide +kernel
theorem dX10_findPhrases_102 : decode cX10_findPhrases 102 = .ok (.goto (-66), 3) := by decide +kernel
theorem dX10_findPhrases_105 : decode cX10_findPhrases 105 = .ok (.iinc 2 (-1), 3) := by decide +kernel
theorem dX10_findPhrases_108 : decode cX10_findPhrases 108 = .ok (.goto (-87), 3) := by decide +kernel
theorem dX10_findPhrases_111 : decode cX10_findPhrases 111 = .ok (.aload_n 0, 1) := by decide +kernel
theorem dX10_findPhrases_112 : decode cX10_findPhrases 112 = .ok (.iconst 0, 1) := by decide +kernel
theorem dX10_findPhrases_113 : decode cX10_findPhrases 113 = .ok (.putfield 300, 3) := by decide +kernel
theorem dX10_findPhrases_116 : decode cX10_findPhrases 116 = .ok (.iconst 0, 1) := by decide +kernel
theorem dX10_findPhrases_117 : decode cX10_findPhrases 117 = .ok (.istore_n 2, 1) := by decide +kernel
theorem dX10_findPhrases_118 : decode cX10_findPhrases 118 = .ok (.iload_n 2, 1) := by decide +kernel
theorem dX10_findPhrases_119 : decode cX10_findPhrases 119 = .ok (.aload_n 0, 1) := by decide +kernel
theorem dX10_findPhrases_120 : decode cX10_findPhrases 120 = .ok (.getfield 120, 3) := by decide +kernel
theorem dX10_findPhrases_123 : decode cX10_findPhrases 123 = .ok (.iload_n 1, 1) := by decide +kernel
theorem dX10_findPhrases_124 : decode cX10_findPhrases 124 = .ok (.iaload, 1) := by decide +kernel
theorem dX10_findPhrases_125 : decode cX10_findPhrases 125 = .ok (.if_icmp .ge 130, 3) := by decide +kernel
theorem dX10_findPhrases_128 : decode cX10_findPhrases 128 = .ok (.aload_n 0, 1) := by decide +kernel
theorem dX10_findPhrases_129 : decode cX10_findPhrases 129 = .ok (.getfield 120, 3) := by decide +kernel
theorem dX10_findPhrases_132 : decode cX10_findPhrases 132 = .ok (.iload_n 1, 1) := by decide +kernel
theorem dX10_findPhrases_133 : decode cX10_findPhrases 133 = .ok (.iaload, 1) := by decide +kernel
theorem dX10_findPhrases_134 : decode cX10_findPhrases 134 = .ok (.istore_n 3, 1) := by decide +kernel
theorem dX10_findPhrases_135 : decode cX10_findPhrases 135 = .ok (.aload_n 0, 1) := by decide +kernel
theorem dX10_findPhrases_136 : decode cX10_findPhrases 136 = .ok (.iload_n 1, 1) := by decide +kernel
theorem dX10_findPhrases_137 : decode cX10_findPhrases 137 = .ok (.iload_n 2, 1) := by decide +kernel
theorem dX10_findPhrases_138 : decode cX10_findPhrases 138 = .ok (.iload_n 3, 1) := by decide +kernel
theorem dX10_findPhrases_139 : decode cX10_findPhrases 139 = .ok (.invokevirtual 296, 3) := by decide +kernel
theorem dX10_findPhrases_142 : decode cX10_findPhrases 142 = .ok (.aload_n 0, 1) := by decide +kernel
theorem dX10_findPhrases_143 : decode cX10_findPhrases 143 = .ok (.getfield 153, 3) := by decide +kernel
theorem dX10_findPhrases_146 : decode cX10_findPhrases 146 = .ok (.iload_n 3, 1) := by decide +kernel
theorem dX10_findPhrases_147 : decode cX10_findPhrases 147 = .ok (.iaload, 1) := by decide +kernel
theorem dX10_findPhrases_148 : decode cX10_findPhrases 148 = .ok (.iadd, 1) := by decide +kernel
theorem dX10_findPhrases_149 : decode cX10_findPhrases 149 = .ok (.aload_n 0, 1) := by decide +kernel
theorem dX10_findPhrases_150 : decode cX10_findPhrases 150 = .ok (.getfield 153, 3) := by decide +kernel
theorem dX10_findPhrases_153 : decode cX10_findPhrases 153 = .ok (.iload_n 2, 1) := by decide +kernel
theorem dX10_findPhrases_154 : decode cX10_findPhrases 154 = .ok (.iaload, 1) := by decide +kernel
theorem dX10_findPhrases_155 : decode cX10_findPhrases 155 = .ok (.if_icmp .eq 9, 3) := by decide +kernel
theorem dX10_findPhrases_158 : decode cX10_findPhrases 158 = .ok (.iinc 3 (-1), 3) := by decide +kernel
theorem dX10_findPhrases_161 : decode cX10_findPhrases 161 = .ok (.goto (-26), 3) := by decide +kernel
theorem dX10_findPhrases_164 : decode cX10_findPhrases 164 = .ok (.aload_n 0, 1) := by decide +kernel
theorem dX10_findPhrases_165 : decode cX10_findPhrases 165 = .ok (.getfield 156, 3) := by decide +kernel
theorem dX10_findPhrases_168 : decode cX10_findPhrases 168 = .ok (.aload_n 0, 1) := by decide +kernel
theorem dX10_findPhrases_169 : decode cX10_findPhrases 169 = .ok (.getfield 300, 3) := by decide +kernel
theorem dX10_findPhrases_172 : decode cX10_findPhrases 172 = .ok (.iload_n 2, 1) := by decide +kernel
theorem dX10_findPhrases_173 : decode cX10_findPhrases 173 = .ok (.iastore, 1) := by decide +kernel
theorem dX10_findPhrases_174 : decode cX10_findPhrases 174 = .ok (.aload_n 0, 1) := by decide +kernel
theorem dX10_findPhrases_175 : decode cX10_findPhrases 175 = .ok (.getfield 159, 3) := by decide +kernel
theorem dX10_findPhrases_178 : decode cX10_findPhrases 178 = .ok (.aload_n 0, 1) := by decide +kernel
theorem dX10_findPhrases_179 : decode cX10_findPhrases 179 = .ok (.getfield 300, 3) := by decide +kernel
theorem dX10_findPhrases_182 : decode cX10_findPhrases 182 = .ok (.iload_n 3, 1) := by decide +kernel
theorem dX10_findPhrases_183 : decode cX10_findPhrases 183 = .ok (.iload_n 2, 1) := by decide +kernel
theorem dX10_findPhrases_184 : decode cX10_findPhrases 184 = .ok (.isub, 1) := by decide +kernel
theorem dX10_findPhrases_185 : decode cX10_findPhrases 185 = .ok (.iastore, 1) := by decide +kernel
theorem dX10_findPhrases_186 : decode cX10_findPhrases 186 = .ok (.aload_n 0, 1) := by decide +kernel
theorem dX10_findPhrases_187 : decode cX10_findPhrases 187 = .ok (.getfield 162, 3) := by decide +kernel
theorem dX10_findPhrases_190 : decode cX10_findPhrases 190 = .ok (.aload_n 0, 1) := by decide +kernel
theorem dX10_findPhrases_191 : decode cX10_findPhrases 191 = .ok (.getfield 300, 3) := by decide +kernel
theorem dX10_findPhrases_194 : decode cX10_findPhrases 194 = .ok (.iconst 0, 1) := by decide +kernel
theorem dX10_findPhrases_195 : decode cX10_findPhrases 195 = .ok (.iastore, 1) := by decide +kernel
theorem dX10_findPhrases_196 : decode cX10_findPhrases 196 = .ok (.bipush 16, 2) := by decide +kernel
theorem dX10_findPhrases_198 : decode cX10_findPhrases 198 = .ok (.iload_n 1, 1) := by decide +kernel
theorem dX10_findPhrases_199 : decode cX10_findPhrases 199 = .ok (.imul, 1) := by decide +kernel
theorem dX10_findPhrases_200 : decode cX10_findPhrases 200 = .ok (.iload_n 2, 1) := by decide +kernel
theorem dX10_findPhrases_201 : decode cX10_findPhrases 201 = .ok (.iadd, 1) := by decide +kernel
theorem dX10_findPhrases_202 : decode cX10_findPhrases 202 = .ok (.istore 4, 2) := by decide +kernel
theorem dX10_findPhrases_204 : decode cX10_findPhrases 204 = .ok (.iload 4, 2) := by decide +kernel
theorem dX10_findPhrases_206 : decode cX10_findPhrases 206 = .ok (.bipush 16, 2) := by decide +kernel
theorem dX10_findPhrases_208 : decode cX10_findPhrases 208 = .ok (.iload_n 1, 1) := by decide +kernel
theorem dX10_findPhrases_209 : decode cX10_findPhrases 209 = .ok (.imul, 1) := by decide +kernel
theorem dX10_findPhrases_210 : decode cX10_findPhrases 210 = .ok (.iload_n 3, 1) := by decide +kernel
theorem dX10_findPhrases_211 : decode cX10_findPhrases 211 = .ok (.iadd, 1) := by decide +kernel
theorem dX10_findPhrases_212 : decode cX10_findPhrases 212 = .ok (.if_icmp .ge 28, 3) := by decide +kernel
theorem dX10_findPhrases_215 : decode cX10_findPhrases 215 = .ok (.aload_n 0, 1) := by decide +kernel
theorem dX10_findPhrases_216 : decode cX10_findPhrases 216 = .ok (.getfield 162, 3) := by decide +kernel
theorem dX10_findPhrases_219 : decode cX10_findPhrases 219 = .ok (.aload_n 0, 1) := by decide +kernel
theorem dX10_findPhrases_220 : decode cX10_findPhrases 220 = .ok (.getfield 300, 3) := by decide +kernel
theorem dX10_findPhrases_223 : decode cX10_findPhrases 223 = .ok (.dup2, 1) := by decide +kernel
theorem dX10_findPhrases_224 : decode cX10_findPhrases 224 = .ok (.iaload, 1) := by decide +kernel
theorem dX10_findPhrases_225 : decode cX10_findPhrases 225 = .ok (.aload_n 0, 1) := by decide +kernel
theorem dX10_findPhrases_226 : decode cX10_findPhrases 226 = .ok (.getfield 123, 3) := by decide +kernel
theorem dX10_findPhrases_229 : decode cX10_findPhrases 229 = .ok (.iload 4, 2) := by decide +kernel
theorem dX10_findPhrases_231 : decode cX10_findPhrases 231 = .ok (.iaload, 1) := by decide +kernel
theorem dX10_findPhrases_232 : decode cX10_findPhrases 232 = .ok (.iadd, 1) := by decide +kernel
theorem dX10_findPhrases_233 : decode cX10_findPhrases 233 = .ok (.iastore, 1) := by decide +kernel
theorem dX10_findPhrases_234 : decode cX10_findPhrases 234 = .ok (.iinc 4 1, 3) := by decide +kernel
theorem dX10_findPhrases_237 : decode cX10_findPhrases 237 = .ok (.goto (-33), 3) := by decide +kernel
theorem dX10_findPhrases_240 : decode cX10_findPhrases 240 = .ok (.aload_n 0, 1) := by decide +kernel
theorem dX10_findPhrases_241 : decode cX10_findPhrases 241 = .ok (.dup, 1) := by decide +kernel
theorem dX10_findPhrases_242 : decode cX10_findPhrases 242 = .ok (.getfield 300, 3) := by decide +kernel
theorem dX10_findPhrases_245 : decode cX10_findPhrases 245 = .ok (.iconst 1, 1) := by decide +kernel
theorem dX10_findPhrases_246 : decode cX10_findPhrases 246 = .ok (.iadd, 1) := by decide +kernel
theorem dX10_findPhrases_247 : decode cX10_findPhrases 247 = .ok (.putfield 300, 3) := by decide +kernel
theorem dX10_findPhrases_250 : decode cX10_findPhrases 250 = .ok (.iload_n 3, 1) := by decide +kernel
theorem dX10_findPhrases_251 : decode cX10_findPhrases 251 = .ok (.istore_n 2, 1) := by decide +kernel
theorem dX10_findPhrases_252 : decode cX10_findPhrases 252 = .ok (.goto (-134), 3) := by decide +kernel
theorem dX10_findPhrases_255 : decode cX10_findPhrases 255 = .ok (.return_, 1) := by decide +kernel
theorem dX10_accents_0 : decode cX10_accents 0 = .ok (.aload_n 0, 1) := by decide +kernel
theorem dX10_accents_1 : decode cX10_accents 1 = .ok (.getfield 156, 3) := by decide +kernel
theorem dX10_accents_4 : decode cX10_accents 4 = .ok (.iload_n 2, 1) := by decide +kernel
theorem dX10_accents_5 : decode cX10_accents 5 = .ok (.iaload, 1) := by decide +kernel
theorem dX10_accents_6 : decode cX10_accents 6 = .ok (.istore_n 3, 1) := by decide +kernel
theorem dX10_accents_7 : decode cX10_accents 7 = .ok (.iload_n 3, 1) := by decide +kernel
theorem dX10_accents_8 : decode cX10_accents 8 = .ok (.aload_n 0, 1) := by decide +kernel
theorem dX10_accents_9 : decode cX10_accents 9 = .ok (.getfield 159, 3) := by decide +kernel
theorem dX10_accents_12 : decode cX10_accents 12 = .ok (.iload_n 2, 1) := by decide +kernel
theorem dX10_accents_13 : decode cX10_accents 13 = .ok (.iaload, 1) := by decide +kernel
theorem dX10_accents_14 : decode cX10_accents 14 = .ok (.iadd, 1) := by decide +kernel
theorem dX10_accents_15 : decode cX10_accents 15 = .ok (.istore 4, 2) := by decide +kernel
theorem dX10_accents_17 : decode cX10_accents 17 = .ok (.iconst 0, 1) := by decide +kernel
theorem dX10_accents_18 : decode cX10_accents 18 = .ok (.istore 5, 2) := by decide +kernel
theorem dX10_accents_20 : decode cX10_accents 20 = .ok (.iload 4, 2) := by decide +kernel
theorem dX10_accents_22 : decode cX10_accents 22 = .ok (.iconst 1, 1) := by decide +kernel
theorem dX10_accents_23 : decode cX10_accents 23 = .ok (.isub, 1) := by decide +kernel
theorem dX10_accents_24 : decode cX10_accents 24 = .ok (.istore 6, 2) := by decide +kernel
theorem dX10_accents_26 : decode cX10_accents 26 = .ok (.iconst 0, 1) := by decide +kernel
theorem dX10_accents_27 : decode cX10_accents 27 = .ok (.istore 7, 2) := by decide +kernel
theorem dX10_accents_29 : decode cX10_accents 29 = .ok (.iload_n 3, 1) := by decide +kernel
theorem dX10_accents_30 : decode cX10_accents 30 = .ok (.istore 8, 2) := by decide +kernel
theorem dX10_accents_32 : decode cX10_accents 32 = .ok (.iload 8, 2) := by decide +kernel
theorem dX10_accents_34 : decode cX10_accents 34 = .ok (.iload 4, 2) := by decide +kernel
theorem dX10_accents_36 : decode cX10_accents 36 = .ok (.if_icmp .ge 113, 3) := by decide +kernel
theorem dX10_accents_39 : decode cX10_accents 39 = .ok (.aload_n 0, 1) := by decide +kernel
theorem dX10_accents_40 : decode cX10_accents 40 = .ok (.getfield 165, 3) := by decide +kernel
theorem dX10_accents_43 : decode cX10_accents 43 = .ok (.iload 8, 2) := by decide +kernel
theorem dX10_accents_45 : decode cX10_accents 45 = .ok (.aload_n 0, 1) := by decide +kernel
theorem dX10_accents_46 : decode cX10_accents 46 = .ok (.getfield 135, 3) := by decide +kernel
theorem dX10_accents_49 : decode cX10_accents 49 = .ok (.bipush 16, 2) := by decide +kernel
theorem dX10_accents_51 : decode cX10_accents 51 = .ok (.iload_n 1, 1) := by decide +kernel
theorem dX10_accents_52 : decode cX10_accents 52 = .ok (.imul, 1) := by decide +kernel
theorem dX10_accents_53 : decode cX10_accents 53 = .ok (.iload 8, 2) := by decide +kernel
theorem dX10_accents_55 : decode cX10_accents 55 = .ok (.iadd, 1) := by decide +kernel
theorem dX10_accents_56 : decode cX10_accents 56 = .ok (.baload, 1) := by decide +kernel
theorem dX10_accents_57 : decode cX10_accents 57 = .ok (.bastore, 1) := by decide +kernel
theorem dX10_accents_58 : decode cX10_accents 58 = .ok (.iload 5, 2) := by decide +kernel
theorem dX10_accents_60 : decode cX10_accents 60 = .ok (.aload_n 0, 1) := by decide +kernel
theorem dX10_accents_61 : decode cX10_accents 61 = .ok (.getfield 165, 3) := by decide +kernel
theorem dX10_accents_64 : decode cX10_accents 64 = .ok (.iload 8, 2) := by decide +kernel
theorem dX10_accents_66 : decode cX10_accents 66 = .ok (.baload, 1) := by decide +kernel
theorem dX10_accents_67 : decode cX10_accents 67 = .ok (.ifCond .eq 7, 3) := by decide +kernel
theorem dX10_accents_70 : decode cX10_accents 70 = .ok (.iconst 1, 1) := by decide +kernel
theorem dX10_accents_71 : decode cX10_accents 71 = .ok (.goto 4, 3) := by decide +kernel
theorem dX10_accents_74 : decode cX10_accents 74 = .ok (.iconst 0, 1) := by decide +kernel
theorem dX10_accents_75 : decode cX10_accents 75 = .ok (.iadd, 1) := by decide +kernel
theorem dX10_accents_76 : decode cX10_accents 76 = .ok (.istore 5, 2) := by decide +kernel
theorem dX10_accents_78 : decode cX10_accents 78 = .ok (.aload_n 0, 1) := by decide +kernel
theorem dX10_accents_79 : decode cX10_accents 79 = .ok (.getfield 132, 3) := by decide +kernel
theorem dX10_accents_82 : decode cX10_accents 82 = .ok (.bipush 16, 2) := by decide +kernel
theorem dX10_accents_84 : decode cX10_accents 84 = .ok (.iload_n 1, 1) := by decide +kernel
theorem dX10_accents_85 : decode cX10_accents 85 = .ok (.imul, 1) := by decide +kernel
theorem dX10_accents_86 : decode cX10_accents 86 = .ok (.iload 8, 2) := by decide +kernel
theorem dX10_accents_88 : decode cX10_accents 88 = .ok (.iadd, 1) := by decide +kernel
theorem dX10_accents_89 : decode cX10_accents 89 = .ok (.baload, 1) := by decide +kernel
theorem dX10_accents_90 : decode cX10_accents 90 = .ok (.ifCond .ne 17, 3) := by decide +kernel
theorem dX10_accents_93 : decode cX10_accents 93 = .ok (.iload 7, 2) := by decide +kernel
theorem dX10_accents_95 : decode cX10_accents 95 = .ok (.ifCond .ne 17, 3) := by decide +kernel
theorem dX10_accents_98 : decode cX10_accents 98 = .ok (.iload 8, 2) := by decide +kernel
theorem dX10_accents_100 : decode cX10_accents 100 = .ok (.iload 4, 2) := by decide +kernel
theorem dX10_accents_102 : decode cX10_accents 102 = .ok (.iconst 1, 1) := by decide +kernel
theorem dX10_accents_103 : decode cX10_accents 103 = .ok (.isub, 1) := by decide +kernel
theorem dX10_accents_104 : decode cX10_accents 104 = .ok (.if_icmp .ne 8, 3) := by decide +kernel
theorem dX10_accents_107 : decode cX10_accents 107 = .ok (.iload 8, 2) := by decide +kernel
theorem dX10_accents_109 : decode cX10_accents 109 = .ok (.goto 5, 3) := by decide +kernel
theorem dX10_accents_112 : decode cX10_accents 112 = .ok (.iload 6, 2) := by decide +kernel
theorem dX10_accents_114 : decode cX10_accents 114 = .ok (.istore 6, 2) := by decide +kernel
theorem dX10_accents_116 : decode cX10_accents 116 = .ok (.iload 7, 2) := by decide +kernel
theorem dX10_accents_118 : decode cX10_accents 118 = .ok (.ifCond .ne 18, 3) := by decide +kernel
theorem dX10_accents_121 : decode cX10_accents 121 = .ok (.aload_n 0, 1) := by decide +kernel
theorem dX10_accents_122 : decode cX10_accents 122 = .ok (.getfield 132, 3) := by decide +kernel
theorem dX10_accents_125 : decode cX10_accents 125 = .ok (.bipush 16, 2) := by decide +kernel
theorem dX10_accents_127 : decode cX10_accents 127 = .ok (.iload_n 1, 1) := by decide +kernel
theorem dX10_accents_128 : decode cX10_accents 128 = .ok (.imul, 1) := by decide +kernel
theorem dX10_accents_129 : decode cX10_accents 129 = .ok (.iload 8, 2) := by decide +kernel
theorem dX10_accents_131 : decode cX10_accents 131 = .ok (.iadd, 1) := by decide +kernel
theorem dX10_accents_132 : decode cX10_accents 132 = .ok (.baload, 1) := by decide +kernel
theorem dX10_accents_133 : decode cX10_accents 133 = .ok (.ifCond .eq 7, 3) := by decide +kernel
theorem dX10_accents_136 : decode cX10_accents 136 = .ok (.iconst 1, 1) := by decide +kernel
theorem dX10_accents_137 : decode cX10_accents 137 = .ok (.goto 4, 3) := by decide +kernel
theorem dX10_accents_140 : decode cX10_accents 140 = .ok (.iconst 0, 1) := by decide +kernel
theorem dX10_accents_141 : decode cX10_accents 141 = .ok (.istore 7, 2) := by decide +kernel
theorem dX10_accents_143 : decode cX10_accents 143 = .ok (.iinc 8 1, 3) := by decide +kernel
theorem dX10_accents_146 : decode cX10_accents 146 = .ok (.goto (-114), 3) := by decide +kernel
theorem dX10_accents_149 : decode cX10_accents 149 = .ok (.iload 5, 2) := by decide +kernel
theorem dX10_accents_151 : decode cX10_accents 151 = .ok (.ifCond .ne 13, 3) := by decide +kernel
theorem dX10_accents_154 : decode cX10_accents 154 = .ok (.aload_n 0, 1) := by decide +kernel
theorem dX10_accents_155 : decode cX10_accents 155 = .ok (.getfield 165, 3) := by decide +kernel
theorem dX10_accents_158 : decode cX10_accents 158 = .ok (.iload 6, 2) := by decide +kernel
theorem dX10_accents_160 : decode cX10_accents 160 = .ok (.iconst 1, 1) := by decide +kernel
theorem dX10_accents_161 : decode cX10_accents 161 = .ok (.bastore, 1) := by decide +kernel
theorem dX10_accents_162 : decode cX10_accents 162 = .ok (.iconst 1, 1) := by decide +kernel
theorem dX10_accents_163 : decode cX10_accents 163 = .ok (.ireturn, 1) := by decide +kernel
theorem dX10_accents_164 : decode cX10_accents 164 = .ok (.iload 5, 2) := by decide +kernel
theorem dX10_accents_166 : decode cX10_accents 166 = .ok (.ireturn, 1) := by decide +kernel
theorem dX10_phrases_0 : decode cX10_phrases 0 = .ok (.aload_n 0, 1) := by decide +kernel
theorem dX10_phrases_1 : decode cX10_phrases 1 = .ok (.iconst 0, 1) := by decide +kernel
theorem dX10_phrases_2 : decode cX10_phrases 2 = .ok (.putfield 1, 3) := by decide +kernel
theorem dX10_phrases_5 : decode cX10_phrases 5 = .ok (.aload_n 0, 1) := by decide +kernel
theorem dX10_phrases_6 : decode cX10_phrases 6 = .ok (.aload_n 0, 1) := by decide +kernel
theorem dX10_phrases_7 : decode cX10_phrases 7 = .ok (.getfield 283, 3) := by decide +kernel
theorem dX10_phrases_10 : decode cX10_phrases 10 = .ok (.invokevirtual 303, 3) := by decide +kernel
theorem dX10_phrases_13 : decode cX10_phrases 13 = .ok (.aload_n 0, 1) := by decide +kernel
theorem dX10_phrases_14 : decode cX10_phrases 14 = .ok (.getfield 300, 3) := by decide +kernel
theorem dX10_phrases_17 : decode cX10_phrases 17 = .ok (.ireturn, 1) := by decide +kernel
theorem dX10_phrase_0 : decode cX10_phrase 0 = .ok (.aload_n 0, 1) := by decide +kernel
theorem dX10_phrase_1 : decode cX10_phrase 1 = .ok (.iconst 0, 1) := by decide +kernel
theorem dX10_phrase_2 : decode cX10_phrase 2 = .ok (.putfield 1, 3) := by decide +kernel
theorem dX10_phrase_5 : decode cX10_phrase 5 = .ok (.aload_n 0, 1) := by decide +kernel
theorem dX10_phrase_6 : decode cX10_phrase 6 = .ok (.aload_n 0, 1) := by decide +kernel
theorem dX10_phrase_7 : decode cX10_phrase 7 = .ok (.getfield 283, 3) := by decide +kernel
theorem dX10_phrase_10 : decode cX10_phrase 10 = .ok (.invokevirtual 303, 3) := by decide +kernel
theorem dX10_phrase_13 : decode cX10_phrase 13 = .ok (.iload_n 1, 1) := by decide +kernel
theorem dX10_phrase_14 : decode cX10_phrase 14 = .ok (.ifCond .lt 11, 3) := by decide +kernel
theorem dX10_phrase_17 : decode cX10_phrase 17 = .ok (.iload_n 1, 1) := by decide +kernel
theorem dX10_phrase_18 : decode cX10_phrase 18 = .ok (.aload_n 0, 1) := by decide +kernel
theorem dX10_phrase_19 : decode cX10_phrase 19 = .ok (.getfield 300, 3) := by decide +kernel
theorem dX10_phrase_22 : decode cX10_phrase 22 = .ok (.if_icmp .lt 5, 3) := by decide +kernel
theorem dX10_phrase_25 : decode cX10_phrase 25 = .ok (.iconst (-1), 1) := by decide +kernel
theorem dX10_phrase_26 : decode cX10_phrase 26 = .ok (.ireturn, 1) := by decide +kernel
theorem dX10_phrase_27 : decode cX10_phrase 27 = .ok (.iload_n 2, 1) := by decide +kernel
theorem dX10_phrase_28 : decode cX10_phrase 28 = .ok (.ifCond .ne 12, 3) := by decide +kernel
theorem dX10_phrase_31 : decode cX10_phrase 31 = .ok (.aload_n 0, 1) := by decide +kernel
theorem dX10_phrase_32 : decode cX10_phrase 32 = .ok (.getfield 156, 3) := by decide +kernel
theorem dX10_phrase_35 : decode cX10_phrase 35 = .ok (.iload_n 1, 1) := by decide +kernel
theorem dX10_phrase_36 : decode cX10_phrase 36 = .ok (.iaload, 1) := by decide +kernel
theorem dX10_phrase_37 : decode cX10_phrase 37 = .ok (.goto 63, 3) := by decide +kernel
theorem dX10_phrase_40 : decode cX10_phrase 40 = .ok (.iload_n 2, 1) := by decide +kernel
theorem dX10_phrase_41 : decode cX10_phrase 41 = .ok (.iconst 1, 1) := by decide +kernel
theorem dX10_phrase_42 : decode cX10_phrase 42 = .ok (.if_icmp .ne 12, 3) := by decide +kernel
theorem dX10_phrase_45 : decode cX10_phrase 45 = .ok (.aload_n 0, 1) := by decide +kernel
theorem dX10_phrase_46 : decode cX10_phrase 46 = .ok (.getfield 159, 3) := by decide +kernel
theorem dX10_phrase_49 : decode cX10_phrase 49 = .ok (.iload_n 1, 1) := by decide +kernel
theorem dX10_phrase_50 : decode cX10_phrase 50 = .ok (.iaload, 1) := by decide +kernel
theorem dX10_phrase_51 : decode cX10_phrase 51 = .ok (.goto 49, 3) := by decide +kernel
theorem dX10_phrase_54 : decode cX10_phrase 54 = .ok (.iload_n 2, 1) := by decide +kernel
theorem dX10_phrase_55 : decode cX10_phrase 55 = .ok (.iconst 2, 1) := by decide +kernel
theorem dX10_phrase_56 : decode cX10_phrase 56 = .ok (.if_icmp .ne 12, 3) := by decide +kernel
theorem dX10_phrase_59 : decode cX10_phrase 59 = .ok (.aload_n 0, 1) := by decide +kernel
theorem dX10_phrase_60 : decode cX10_phrase 60 = .ok (.getfield 162, 3) := by decide +kernel
theorem dX10_phrase_63 : decode cX10_phrase 63 = .ok (.iload_n 1, 1) := by decide +kernel
theorem dX10_phrase_64 : decode cX10_phrase 64 = .ok (.iaload, 1) := by decide +kernel
theorem dX10_phrase_65 : decode cX10_phrase 65 = .ok (.goto 35, 3) := by decide +kernel
theorem dX10_phrase_68 : decode cX10_phrase 68 = .ok (.iload_n 2, 1) := by decide +kernel
theorem dX10_phrase_69 : decode cX10_phrase 69 = .ok (.iconst 3, 1) := by decide +kernel
theorem dX10_phrase_70 : decode cX10_phrase 70 = .ok (.if_icmp .ne 15, 3) := by decide +kernel
theorem dX10_phrase_73 : decode cX10_phrase 73 = .ok (.aload_n 0, 1) := by decide +kernel
theorem dX10_phrase_74 : decode cX10_phrase 74 = .ok (.aload_n 0, 1) := by decide +kernel
theorem dX10_phrase_75 : decode cX10_phrase 75 = .ok (.getfield 283, 3) := by decide +kernel
theorem dX10_phrase_78 : decode cX10_phrase 78 = .ok (.iload_n 1, 1) := by decide +kernel
theorem dX10_phrase_79 : decode cX10_phrase 79 = .ok (.invokevirtual 306, 3) := by decide +kernel
theorem dX10_phrase_82 : decode cX10_phrase 82 = .ok (.goto 18, 3) := by decide +kernel
theorem dX10_phrase_85 : decode cX10_phrase 85 = .ok (.iload_n 2, 1) := by decide +kernel
theorem dX10_phrase_86 : decode cX10_phrase 86 = .ok (.iconst 4, 1) := by decide +kernel
theorem dX10_phrase_87 : decode cX10_phrase 87 = .ok (.if_icmp .ne 12, 3) := by decide +kernel
theorem dX10_phrase_90 : decode cX10_phrase 90 = .ok (.aload_n 0, 1) := by decide +kernel
theorem dX10_phrase_91 : decode cX10_phrase 91 = .ok (.getfield 153, 3) := by decide +kernel
theorem dX10_phrase_94 : decode cX10_phrase 94 = .ok (.iconst 0, 1) := by decide +kernel
theorem dX10_phrase_95 : decode cX10_phrase 95 = .ok (.iaload, 1) := by decide +kernel
theorem dX10_phrase_96 : decode cX10_phrase 96 = .ok (.goto 4, 3) := by decide +kernel
theorem dX10_phrase_99 : decode cX10_phrase 99 = .ok (.iconst (-1), 1) := by decide +kernel
theorem dX10_phrase_100 : decode cX10_phrase 100 = .ok (.ireturn, 1) := by decide +kernel
theorem dX10_setsOut_0 : decode cX10_setsOut 0 = .ok (.aload_n 0, 1) := by decide +kernel
theorem dX10_setsOut_1 : decode cX10_setsOut 1 = .ok (.iload_n 1, 1) := by decide +kernel
theorem dX10_setsOut_2 : decode cX10_setsOut 2 = .ok (.invokevirtual 303, 3) := by decide +kernel
theorem dX10_setsOut_5 : decode cX10_setsOut 5 = .ok (.aload_n 0, 1) := by decide +kernel
theorem dX10_setsOut_6 : decode cX10_setsOut 6 = .ok (.iconst 0, 1) := by decide +kernel
theorem dX10_setsOut_7 : decode cX10_setsOut 7 = .ok (.putfield 310, 3) := by decide +kernel
theorem dX10_setsOut_10 : decode cX10_setsOut 10 = .ok (.iconst 0, 1) := by decide +kernel
theorem dX10_setsOut_11 : decode cX10_setsOut 11 = .ok (.istore_n 2, 1) := by decide +kernel
theorem dX10_setsOut_12 : decode cX10_setsOut 12 = .ok (.iload_n 2, 1) := by decide +kernel
theorem dX10_setsOut_13 : decode cX10_setsOut 13 = .ok (.aload_n 0, 1) := by decide +kernel
theorem dX10_setsOut_14 : decode cX10_setsOut 14 = .ok (.getfield 300, 3) := by decide +kernel
theorem dX10_setsOut_17 : decode cX10_setsOut 17 = .ok (.if_icmp .ge 201, 3) := by decide +kernel
theorem dX10_setsOut_20 : decode cX10_setsOut 20 = .ok (.aload_n 0, 1) := by decide +kernel
theorem dX10_setsOut_21 : decode cX10_setsOut 21 = .ok (.iload_n 1, 1) := by decide +kernel
theorem dX10_setsOut_22 : decode cX10_setsOut 22 = .ok (.iload_n 2, 1) := by decide +kernel
theorem dX10_setsOut_23 : decode cX10_setsOut 23 = .ok (.invokevirtual 306, 3) := by decide +kernel
theorem dX10_setsOut_26 : decode cX10_setsOut 26 = .ok (.istore_n 3, 1) := by decide +kernel
theorem dX10_setsOut_27 : decode cX10_setsOut 27 = .ok (.aload_n 0, 1) := by decide +kernel
theorem dX10_setsOut_28 : decode cX10_setsOut 28 = .ok (.getfield 310, 3) := by decide +kernel
theorem dX10_setsOut_31 : decode cX10_setsOut 31 = .ok (.istore 4, 2) := by decide +kernel
theorem dX10_setsOut_33 : decode cX10_setsOut 33 = .ok (.aload_n 0, 1) := by decide +kernel
theorem dX10_setsOut_34 : decode cX10_setsOut 34 = .ok (.getfield 156, 3) := by decide +kernel
theorem dX10_setsOut_37 : decode cX10_setsOut 37 = .ok (.iload_n 2, 1) := by decide +kernel
theorem dX10_setsOut_38 : decode cX10_setsOut 38 = .ok (.iaload, 1) := by decide +kernel
theorem dX10_setsOut_39 : decode cX10_setsOut 39 = .ok (.istore 5, 2) := by decide +kernel
theorem dX10_setsOut_41 : decode cX10_setsOut 41 = .ok (.iload 5, 2) := by decide +kernel
theorem dX10_setsOut_43 : decode cX10_setsOut 43 = .ok (.aload_n 0, 1) := by decide +kernel
theorem dX10_setsOut_44 : decode cX10_setsOut 44 = .ok (.getfield 156, 3) := by decide +kernel
theorem dX10_setsOut_47 : decode cX10_setsOut 47 = .ok (.iload_n 2, 1) := by decide +kernel
theorem dX10_setsOut_48 : decode cX10_setsOut 48 = .ok (.iaload, 1) := by decide +kernel
theorem dX10_setsOut_49 : decode cX10_setsOut 49 = .ok (.aload_n 0, 1) := by decide +kernel
theorem dX10_setsOut_50 : decode cX10_setsOut 50 = .ok (.getfield 159, 3) := by decide +kernel
theorem dX10_setsOut_53 : decode cX10_setsOut 53 = .ok (.iload_n 2, 1) := by decide +kernel
theorem dX10_setsOut_54 : decode cX10_setsOut 54 = .ok (.iaload, 1) := by decide +kernel
theorem dX10_setsOut_55 : decode cX10_setsOut 55 = .ok (.iadd, 1) := by decide +kernel
theorem dX10_setsOut_56 : decode cX10_setsOut 56 = .ok (.if_icmp .ge 156, 3) := by decide +kernel
theorem dX10_setsOut_59 : decode cX10_setsOut 59 = .ok (.iconst 0, 1) := by decide +kernel
theorem dX10_setsOut_60 : decode cX10_setsOut 60 = .ok (.istore 6, 2) := by decide +kernel
theorem dX10_setsOut_62 : decode cX10_setsOut 62 = .ok (.iload 6, 2) := by decide +kernel
theorem dX10_setsOut_64 : decode cX10_setsOut 64 = .ok (.aload_n 0, 1) := by decide +kernel
theorem dX10_setsOut_65 : decode cX10_setsOut 65 = .ok (.getfield 123, 3) := by decide +kernel
theorem dX10_setsOut_68 : decode cX10_setsOut 68 = .ok (.bipush 16, 2) := by decide +kernel
theorem dX10_setsOut_70 : decode cX10_setsOut 70 = .ok (.iload_n 1, 1) := by decide +kernel
theorem dX10_setsOut_71 : decode cX10_setsOut 71 = .ok (.imul, 1) := by decide +kernel
theorem dX10_setsOut_72 : decode cX10_setsOut 72 = .ok (.iload 5, 2) := by decide +kernel
theorem dX10_setsOut_74 : decode cX10_setsOut 74 = .ok (.iadd, 1) := by decide +kernel
theorem dX10_setsOut_75 : decode cX10_setsOut 75 = .ok (.iaload, 1) := by decide +kernel
theorem dX10_setsOut_76 : decode cX10_setsOut 76 = .ok (.if_icmp .ge 130, 3) := by decide +kernel
theorem dX10_setsOut_79 : decode cX10_setsOut 79 = .ok (.aload_n 0, 1) := by decide +kernel
theorem dX10_setsOut_80 : decode cX10_setsOut 80 = .ok (.getfield 168, 3) := by decide +kernel
theorem dX10_setsOut_83 : decode cX10_setsOut 83 = .ok (.aload_n 0, 1) := by decide +kernel
theorem dX10_setsOut_84 : decode cX10_setsOut 84 = .ok (.getfield 310, 3) := by decide +kernel
theorem dX10_setsOut_87 : decode cX10_setsOut 87 = .ok (.iload 5, 2) := by decide +kernel
theorem dX10_setsOut_89 : decode cX10_setsOut 89 = .ok (.iastore, 1) := by decide +kernel
theorem dX10_setsOut_90 : decode cX10_setsOut 90 = .ok (.aload_n 0, 1) := by decide +kernel
theorem dX10_setsOut_91 : decode cX10_setsOut 91 = .ok (.getfield 171, 3) := by decide +kernel
theorem dX10_setsOut_94 : decode cX10_setsOut 94 = .ok (.aload_n 0, 1) := by decide +kernel
theorem dX10_setsOut_95 : decode cX10_setsOut 95 = .ok (.getfield 310, 3) := by decide +kernel
theorem dX10_setsOut_98 : decode cX10_setsOut 98 = .ok (.iload_n 2, 1) := by decide +kernel
theorem dX10_setsOut_99 : decode cX10_setsOut 99 = .ok (.iastore, 1) := by decide +kernel
theorem dX10_setsOut_100 : decode cX10_setsOut 100 = .ok (.aload_n 0, 1) := by decide +kernel
theorem dX10_setsOut_101 : decode cX10_setsOut 101 = .ok (.getfield 174, 3) := by decide +kernel
theorem dX10_setsOut_104 : decode cX10_setsOut 104 = .ok (.aload_n 0, 1) := by decide +kernel
theorem dX10_setsOut_105 : decode cX10_setsOut 105 = .ok (.getfield 310, 3) := by decide +kernel
theorem dX10_setsOut_108 : decode cX10_setsOut 108 = .ok (.aload_n 0, 1) := by decide +kernel
theorem dX10_setsOut_109 : decode cX10_setsOut 109 = .ok (.getfield 310, 3) := by decide +kernel
theorem dX10_setsOut_112 : decode cX10_setsOut 112 = .ok (.iload 4, 2) := by decide +kernel
theorem dX10_setsOut_114 : decode cX10_setsOut 114 = .ok (.isub, 1) := by decide +kernel
theorem dX10_setsOut_115 : decode cX10_setsOut 115 = .ok (.iastore, 1) := by decide +kernel
theorem dX10_setsOut_116 : decode cX10_setsOut 116 = .ok (.aload_n 0, 1) := by decide +kernel
theorem dX10_setsOut_117 : decode cX10_setsOut 117 = .ok (.getfield 177, 3) := by decide +kernel
theorem dX10_setsOut_120 : decode cX10_setsOut 120 = .ok (.aload_n 0, 1) := by decide +kernel
theorem dX10_setsOut_121 : decode cX10_setsOut 121 = .ok (.getfield 310, 3) := by decide +kernel
theorem dX10_setsOut_124 : decode cX10_setsOut 124 = .ok (.aload_n 0, 1) := by decide +kernel
theorem dX10_setsOut_125 : decode cX10_setsOut 125 = .ok (.getfield 310, 3) := by decide +kernel
theorem dX10_setsOut_128 : decode cX10_setsOut 128 = .ok (.iload 4, 2) := by decide +kernel
theorem dX10_setsOut_130 : decode cX10_setsOut 130 = .ok (.isub, 1) := by decide +kernel
theorem dX10_setsOut_131 : decode cX10_setsOut 131 = .ok (.aload_n 0, 1) := by decide +kernel
theorem dX10_setsOut_132 : decode cX10_setsOut 132 = .ok (.getfield 162, 3) := by decide +kernel
theorem dX10_setsOut_135 : decode cX10_setsOut 135 = .ok (.iload_n 2, 1) := by decide +kernel
theorem dX10_setsOut_136 : decode cX10_setsOut 136 = .ok (.iaload, 1) := by decide +kernel
theorem dX10_setsOut_137 : decode cX10_setsOut 137 = .ok (.iconst 1, 1) := by decide +kernel
theorem dX10_setsOut_138 : decode cX10_setsOut 138 = .ok (.isub, 1) := by decide +kernel
theorem dX10_setsOut_139 : decode cX10_setsOut 139 = .ok (.if_icmp .ne 7, 3) := by decide +kernel
theorem dX10_setsOut_142 : decode cX10_setsOut 142 = .ok (.iconst 1, 1) := by decide +kernel
theorem dX10_setsOut_143 : decode cX10_setsOut 143 = .ok (.goto 4, 3) := by decide +kernel
theorem dX10_setsOut_146 : decode cX10_setsOut 146 = .ok (.iconst 0, 1) := by decide +kernel
theorem dX10_setsOut_147 : decode cX10_setsOut 147 = .ok (.bastore, 1) := by decide +kernel
theorem dX10_setsOut_148 : decode cX10_setsOut 148 = .ok (.aload_n 0, 1) := by decide +kernel
theorem dX10_setsOut_149 : decode cX10_setsOut 149 = .ok (.getfield 180, 3) := by decide +kernel
theorem dX10_setsOut_152 : decode cX10_setsOut 152 = .ok (.iconst 3, 1) := by decide +kernel
theorem dX10_setsOut_153 : decode cX10_setsOut 153 = .ok (.aload_n 0, 1) := by decide +kernel
theorem dX10_setsOut_154 : decode cX10_setsOut 154 = .ok (.getfield 310, 3) := by decide +kernel
theorem dX10_setsOut_157 : decode cX10_setsOut 157 = .ok (.imul, 1) := by decide +kernel
theorem dX10_setsOut_158 : decode cX10_setsOut 158 = .ok (.bipush 10, 2) := by decide +kernel
theorem dX10_setsOut_160 : decode cX10_setsOut 160 = .ok (.iastore, 1) := by decide +kernel
theorem dX10_setsOut_161 : decode cX10_setsOut 161 = .ok (.aload_n 0, 1) := by decide +kernel
theorem dX10_setsOut_162 : decode cX10_setsOut 162 = .ok (.getfield 180, 3) := by decide +kernel
theorem dX10_setsOut_165 : decode cX10_setsOut 165 = .ok (.iconst 3, 1) := by decide +kernel
theorem dX10_setsOut_166 : decode cX10_setsOut 166 = .ok (.aload_n 0, 1) := by decide +kernel
theorem dX10_setsOut_167 : decode cX10_setsOut 167 = .ok (.getfield 310, 3) := by decide +kernel
theorem dX10_setsOut_170 : decode cX10_setsOut 170 = .ok (.imul, 1) := by decide +kernel
theorem dX10_setsOut_171 : decode cX10_setsOut 171 = .ok (.iconst 1, 1) := by decide +kernel
theorem dX10_setsOut_172 : decode cX10_setsOut 172 = .ok (.iadd, 1) := by decide +kernel
theorem dX10_setsOut_173 : decode cX10_setsOut 173 = .ok (.bipush 50, 2) := by decide +kernel
theorem dX10_setsOut_175 : decode cX10_setsOut 175 = .ok (.iastore, 1) := by decide +kernel
theorem dX10_setsOut_176 : decode cX10_setsOut 176 = .ok (.aload_n 0, 1) := by decide +kernel
theorem dX10_setsOut_177 : decode cX10_setsOut 177 = .ok (.getfield 180, 3) := by decide +kernel
theorem dX10_setsOut_180 : decode cX10_setsOut 180 = .ok (.iconst 3, 1) := by decide +kernel
theorem dX10_setsOut_181 : decode cX10_setsOut 181 = .ok (.aload_n 0, 1) := by decide +kernel
theorem dX10_setsOut_182 : decode cX10_setsOut 182 = .ok (.getfield 310, 3) := by decide +kernel
theorem dX10_setsOut_185 : decode cX10_setsOut 185 = .ok (.imul, 1) := by decide +kernel
theorem dX10_setsOut_186 : decode cX10_setsOut 186 = .ok (.iconst 2, 1) := by decide +kernel
theorem dX10_setsOut_187 : decode cX10_setsOut 187 = .ok (.iadd, 1) := by decide +kernel
theorem dX10_setsOut_188 : decode cX10_setsOut 188 = .ok (.iconst 5, 1) := by decide +kernel
theorem dX10_setsOut_189 : decode cX10_setsOut 189 = .ok (.iastore, 1) := by decide +kernel
theorem dX10_setsOut_190 : decode cX10_setsOut 190 = .ok (.aload_n 0, 1) := by decide +kernel
theorem dX10_setsOut_191 : decode cX10_setsOut 191 = .ok (.dup, 1) := by decide +kernel
theorem dX10_setsOut_192 : decode cX10_setsOut 192 = .ok (.getfield 310, 3) := by decide +kernel
theorem dX10_setsOut_195 : decode cX10_setsOut 195 = .ok (.iconst 1, 1) := by decide +kernel
theorem dX10_setsOut_196 : decode cX10_setsOut 196 = .ok (.iadd, 1) := by decide +kernel
theorem dX10_setsOut_197 : decode cX10_setsOut 197 = .ok (.putfield 310, 3) := by decide +kernel
theorem dX10_setsOut_200 : decode cX10_setsOut 200 = .ok (.iinc 6 1, 3) := by decide +kernel
theorem dX10_setsOut_203 : decode cX10_setsOut 203 = .ok (.goto (-141), 3) := by decide +kernel
theorem dX10_setsOut_206 : decode cX10_setsOut 206 = .ok (.iinc 5 1, 3) := by decide +kernel
theorem dX10_setsOut_209 : decode cX10_setsOut 209 = .ok (.goto (-168), 3) := by decide +kernel
theorem dX10_setsOut_212 : decode cX10_setsOut 212 = .ok (.iinc 2 1, 3) := by decide +kernel
theorem dX10_setsOut_215 : decode cX10_setsOut 215 = .ok (.goto (-203), 3) := by decide +kernel
theorem dX10_setsOut_218 : decode cX10_setsOut 218 = .ok (.return_, 1) := by decide +kernel
theorem dX10_knows_0 : decode cX10_knows 0 = .ok (.aload_n 0, 1) := by decide +kernel
theorem dX10_knows_1 : decode cX10_knows 1 = .ok (.getfield 168, 3) := by decide +kernel
theorem dX10_knows_4 : decode cX10_knows 4 = .ok (.iload_n 2, 1) := by decide +kernel
theorem dX10_knows_5 : decode cX10_knows 5 = .ok (.iaload, 1) := by decide +kernel
theorem dX10_knows_6 : decode cX10_knows 6 = .ok (.istore_n 3, 1) := by decide +kernel
theorem dX10_knows_7 : decode cX10_knows 7 = .ok (.iload_n 2, 1) := by decide +kernel
theorem dX10_knows_8 : decode cX10_knows 8 = .ok (.istore 4, 2) := by decide +kernel
theorem dX10_knows_10 : decode cX10_knows 10 = .ok (.iload 4, 2) := by decide +kernel
theorem dX10_knows_12 : decode cX10_knows 12 = .ok (.ifCond .le 22, 3) := by decide +kernel
theorem dX10_knows_15 : decode cX10_knows 15 = .ok (.aload_n 0, 1) := by decide +kernel
theorem dX10_knows_16 : decode cX10_knows 16 = .ok (.getfield 168, 3) := by decide +kernel
theorem dX10_knows_19 : decode cX10_knows 19 = .ok (.iload 4, 2) := by decide +kernel
theorem dX10_knows_21 : decode cX10_knows 21 = .ok (.iconst 1, 1) := by decide +kernel
theorem dX10_knows_22 : decode cX10_knows 22 = .ok (.isub, 1) := by decide +kernel
theorem dX10_knows_23 : decode cX10_knows 23 = .ok (.iaload, 1) := by decide +kernel
theorem dX10_knows_24 : decode cX10_knows 24 = .ok (.iload_n 3, 1) := by decide +kernel
theorem dX10_knows_25 : decode cX10_knows 25 = .ok (.if_icmp .ne 9, 3) := by decide +kernel
theorem dX10_knows_28 : decode cX10_knows 28 = .ok (.iinc 4 (-1), 3) := by decide +kernel
theorem dX10_knows_31 : decode cX10_knows 31 = .ok (.goto (-21), 3) := by decide +kernel
theorem dX10_knows_34 : decode cX10_knows 34 = .ok (.iload_n 2, 1) := by decide +kernel
theorem dX10_knows_35 : decode cX10_knows 35 = .ok (.iload 4, 2) := by decide +kernel
theorem dX10_knows_37 : decode cX10_knows 37 = .ok (.isub, 1) := by decide +kernel
theorem dX10_knows_38 : decode cX10_knows 38 = .ok (.aload_n 0, 1) := by decide +kernel
theorem dX10_knows_39 : decode cX10_knows 39 = .ok (.getfield 126, 3) := by decide +kernel
theorem dX10_knows_42 : decode cX10_knows 42 = .ok (.bipush 16, 2) := by decide +kernel
theorem dX10_knows_44 : decode cX10_knows 44 = .ok (.iload_n 1, 1) := by decide +kernel
theorem dX10_knows_45 : decode cX10_knows 45 = .ok (.imul, 1) := by decide +kernel
theorem dX10_knows_46 : decode cX10_knows 46 = .ok (.iload_n 3, 1) := by decide +kernel
theorem dX10_knows_47 : decode cX10_knows 47 = .ok (.iadd, 1) := by decide +kernel
theorem dX10_knows_48 : decode cX10_knows 48 = .ok (.iaload, 1) := by decide +kernel
theorem dX10_knows_49 : decode cX10_knows 49 = .ok (.if_icmp .ne 7, 3) := by decide +kernel
theorem dX10_knows_52 : decode cX10_knows 52 = .ok (.iconst 1, 1) := by decide +kernel
theorem dX10_knows_53 : decode cX10_knows 53 = .ok (.goto 4, 3) := by decide +kernel
theorem dX10_knows_56 : decode cX10_knows 56 = .ok (.iconst 0, 1) := by decide +kernel
theorem dX10_knows_57 : decode cX10_knows 57 = .ok (.istore 5, 2) := by decide +kernel
theorem dX10_knows_59 : decode cX10_knows 59 = .ok (.aload_n 0, 1) := by decide +kernel
theorem dX10_knows_60 : decode cX10_knows 60 = .ok (.getfield 111, 3) := by decide +kernel
theorem dX10_knows_63 : decode cX10_knows 63 = .ok (.iconst 0, 1) := by decide +kernel
theorem dX10_knows_64 : decode cX10_knows 64 = .ok (.aload_n 0, 1) := by decide +kernel
theorem dX10_knows_65 : decode cX10_knows 65 = .ok (.getfield 180, 3) := by decide +kernel
theorem dX10_knows_68 : decode cX10_knows 68 = .ok (.iconst 3, 1) := by decide +kernel
theorem dX10_knows_69 : decode cX10_knows 69 = .ok (.iload_n 2, 1) := by decide +kernel
theorem dX10_knows_70 : decode cX10_knows 70 = .ok (.imul, 1) := by decide +kernel
theorem dX10_knows_71 : decode cX10_knows 71 = .ok (.iaload, 1) := by decide +kernel
theorem dX10_knows_72 : decode cX10_knows 72 = .ok (.iastore, 1) := by decide +kernel
theorem dX10_knows_73 : decode cX10_knows 73 = .ok (.aload_n 0, 1) := by decide +kernel
theorem dX10_knows_74 : decode cX10_knows 74 = .ok (.getfield 111, 3) := by decide +kernel
theorem dX10_knows_77 : decode cX10_knows 77 = .ok (.iconst 1, 1) := by decide +kernel
theorem dX10_knows_78 : decode cX10_knows 78 = .ok (.aload_n 0, 1) := by decide +kernel
theorem dX10_knows_79 : decode cX10_knows 79 = .ok (.getfield 180, 3) := by decide +kernel
theorem dX10_knows_82 : decode cX10_knows 82 = .ok (.iconst 3, 1) := by decide +kernel
theorem dX10_knows_83 : decode cX10_knows 83 = .ok (.iload_n 2, 1) := by decide +kernel
theorem dX10_knows_84 : decode cX10_knows 84 = .ok (.imul, 1) := by decide +kernel
theorem dX10_knows_85 : decode cX10_knows 85 = .ok (.iconst 1, 1) := by decide +kernel
theorem dX10_knows_86 : decode cX10_knows 86 = .ok (.iadd, 1) := by decide +kernel
theorem dX10_knows_87 : decode cX10_knows 87 = .ok (.iaload, 1) := by decide +kernel
theorem dX10_knows_88 : decode cX10_knows 88 = .ok (.iastore, 1) := by decide +kernel
theorem dX10_knows_89 : decode cX10_knows 89 = .ok (.aload_n 0, 1) := by decide +kernel
theorem dX10_knows_90 : decode cX10_knows 90 = .ok (.getfield 111, 3) := by decide +kernel
theorem dX10_knows_93 : decode cX10_knows 93 = .ok (.iconst 2, 1) := by decide +kernel
theorem dX10_knows_94 : decode cX10_knows 94 = .ok (.aload_n 0, 1) := by decide +kernel
