theorem dX6_layWord_84 : decode cX6_layWord 84 = .ok (.iconst 5, 1) := by decide +kernel
theorem dX6_layWord_85 : decode cX6_layWord 85 = .ok (.aaload, 1) := by decide +kernel
theorem dX6_layWord_86 : decode cX6_layWord 86 = .ok (.aload_n 0, 1) := by decide +kernel
theorem dX6_layWord_87 : decode cX6_layWord 87 = .ok (.getfield 27, 3) := by decide +kernel
theorem dX6_layWord_90 : decode cX6_layWord 90 = .ok (.iload 6, 2) := by decide +kernel
theorem dX6_layWord_92 : decode cX6_layWord 92 = .ok (.ifCond .eq 7, 3) := by decide +kernel
theorem dX6_layWord_95 : decode cX6_layWord 95 = .ok (.iconst 1, 1) := by decide +kernel
theorem dX6_layWord_96 : decode cX6_layWord 96 = .ok (.goto 4, 3) := by decide +kernel
theorem dX6_layWord_99 : decode cX6_layWord 99 = .ok (.iconst 0, 1) := by decide +kernel
theorem dX6_layWord_100 : decode cX6_layWord 100 = .ok (.iastore, 1) := by decide +kernel
theorem dX6_layWord_101 : decode cX6_layWord 101 = .ok (.aload_n 0, 1) := by decide +kernel
theorem dX6_layWord_102 : decode cX6_layWord 102 = .ok (.getfield 20, 3) := by decide +kernel
theorem dX6_layWord_105 : decode cX6_layWord 105 = .ok (.bipush 6, 2) := by decide +kernel
theorem dX6_layWord_107 : decode cX6_layWord 107 = .ok (.aaload, 1) := by decide +kernel
theorem dX6_layWord_108 : decode cX6_layWord 108 = .ok (.aload_n 0, 1) := by decide +kernel
theorem dX6_layWord_109 : decode cX6_layWord 109 = .ok (.getfield 27, 3) := by decide +kernel
theorem dX6_layWord_112 : decode cX6_layWord 112 = .ok (.iload 6, 2) := by decide +kernel
theorem dX6_layWord_114 : decode cX6_layWord 114 = .ok (.ifCond .eq 19, 3) := by decide +kernel
theorem dX6_layWord_117 : decode cX6_layWord 117 = .ok (.aload_n 0, 1) := by decide +kernel
theorem dX6_layWord_118 : decode cX6_layWord 118 = .ok (.getfield 12, 3) := by decide +kernel
theorem dX6_layWord_121 : decode cX6_layWord 121 = .ok (.getfield 75, 3) := by decide +kernel
theorem dX6_layWord_124 : decode cX6_layWord 124 = .ok (.iload_n 2, 1) := by decide +kernel
theorem dX6_layWord_125 : decode cX6_layWord 125 = .ok (.baload, 1) := by decide +kernel
theorem dX6_layWord_126 : decode cX6_layWord 126 = .ok (.ifCond .eq 7, 3) := by decide +kernel
theorem dX6_layWord_129 : decode cX6_layWord 129 = .ok (.iconst 1, 1) := by decide +kernel
theorem dX6_layWord_130 : decode cX6_layWord 130 = .ok (.goto 4, 3) := by decide +kernel
theorem dX6_layWord_133 : decode cX6_layWord 133 = .ok (.iconst 0, 1) := by decide +kernel
theorem dX6_layWord_134 : decode cX6_layWord 134 = .ok (.iastore, 1) := by decide +kernel
theorem dX6_layWord_135 : decode cX6_layWord 135 = .ok (.aload_n 0, 1) := by decide +kernel
theorem dX6_layWord_136 : decode cX6_layWord 136 = .ok (.getfield 20, 3) := by decide +kernel
theorem dX6_layWord_139 : decode cX6_layWord 139 = .ok (.bipush 7, 2) := by decide +kernel
theorem dX6_layWord_141 : decode cX6_layWord 141 = .ok (.aaload, 1) := by decide +kernel
theorem dX6_layWord_142 : decode cX6_layWord 142 = .ok (.aload_n 0, 1) := by decide +kernel
theorem dX6_layWord_143 : decode cX6_layWord 143 = .ok (.getfield 27, 3) := by decide +kernel
theorem dX6_layWord_146 : decode cX6_layWord 146 = .ok (.aload_n 1, 1) := by decide +kernel
theorem dX6_layWord_147 : decode cX6_layWord 147 = .ok (.getfield 79, 3) := by decide +kernel
theorem dX6_layWord_150 : decode cX6_layWord 150 = .ok (.iload_n 2, 1) := by decide +kernel
theorem dX6_layWord_151 : decode cX6_layWord 151 = .ok (.baload, 1) := by decide +kernel
theorem dX6_layWord_152 : decode cX6_layWord 152 = .ok (.ifCond .eq 7, 3) := by decide +kernel
theorem dX6_layWord_155 : decode cX6_layWord 155 = .ok (.iconst 1, 1) := by decide +kernel
theorem dX6_layWord_156 : decode cX6_layWord 156 = .ok (.goto 4, 3) := by decide +kernel
theorem dX6_layWord_159 : decode cX6_layWord 159 = .ok (.iconst 0, 1) := by decide +kernel
theorem dX6_layWord_160 : decode cX6_layWord 160 = .ok (.iastore, 1) := by decide +kernel
theorem dX6_layWord_161 : decode cX6_layWord 161 = .ok (.aload_n 0, 1) := by decide +kernel
theorem dX6_layWord_162 : decode cX6_layWord 162 = .ok (.getfield 20, 3) := by decide +kernel
theorem dX6_layWord_165 : decode cX6_layWord 165 = .ok (.bipush 8, 2) := by decide +kernel
theorem dX6_layWord_167 : decode cX6_layWord 167 = .ok (.aaload, 1) := by decide +kernel
theorem dX6_layWord_168 : decode cX6_layWord 168 = .ok (.aload_n 0, 1) := by decide +kernel
theorem dX6_layWord_169 : decode cX6_layWord 169 = .ok (.getfield 27, 3) := by decide +kernel
theorem dX6_layWord_172 : decode cX6_layWord 172 = .ok (.aload_n 1, 1) := by decide +kernel
theorem dX6_layWord_173 : decode cX6_layWord 173 = .ok (.getfield 82, 3) := by decide +kernel
theorem dX6_layWord_176 : decode cX6_layWord 176 = .ok (.iload_n 2, 1) := by decide +kernel
theorem dX6_layWord_177 : decode cX6_layWord 177 = .ok (.baload, 1) := by decide +kernel
theorem dX6_layWord_178 : decode cX6_layWord 178 = .ok (.ifCond .eq 7, 3) := by decide +kernel
theorem dX6_layWord_181 : decode cX6_layWord 181 = .ok (.iconst 1, 1) := by decide +kernel
theorem dX6_layWord_182 : decode cX6_layWord 182 = .ok (.goto 4, 3) := by decide +kernel
theorem dX6_layWord_185 : decode cX6_layWord 185 = .ok (.iconst 0, 1) := by decide +kernel
theorem dX6_layWord_186 : decode cX6_layWord 186 = .ok (.iastore, 1) := by decide +kernel
theorem dX6_layWord_187 : decode cX6_layWord 187 = .ok (.aload_n 0, 1) := by decide +kernel
theorem dX6_layWord_188 : decode cX6_layWord 188 = .ok (.getfield 20, 3) := by decide +kernel
theorem dX6_layWord_191 : decode cX6_layWord 191 = .ok (.bipush 9, 2) := by decide +kernel
theorem dX6_layWord_193 : decode cX6_layWord 193 = .ok (.aaload, 1) := by decide +kernel
theorem dX6_layWord_194 : decode cX6_layWord 194 = .ok (.aload_n 0, 1) := by decide +kernel
theorem dX6_layWord_195 : decode cX6_layWord 195 = .ok (.getfield 27, 3) := by decide +kernel
theorem dX6_layWord_198 : decode cX6_layWord 198 = .ok (.iload_n 3, 1) := by decide +kernel
theorem dX6_layWord_199 : decode cX6_layWord 199 = .ok (.iastore, 1) := by decide +kernel
theorem dX6_layWord_200 : decode cX6_layWord 200 = .ok (.aload_n 0, 1) := by decide +kernel
theorem dX6_layWord_201 : decode cX6_layWord 201 = .ok (.getfield 20, 3) := by decide +kernel
theorem dX6_layWord_204 : decode cX6_layWord 204 = .ok (.bipush 10, 2) := by decide +kernel
theorem dX6_layWord_206 : decode cX6_layWord 206 = .ok (.aaload, 1) := by decide +kernel
theorem dX6_layWord_207 : decode cX6_layWord 207 = .ok (.aload_n 0, 1) := by decide +kernel
theorem dX6_layWord_208 : decode cX6_layWord 208 = .ok (.getfield 27, 3) := by decide +kernel
theorem dX6_layWord_211 : decode cX6_layWord 211 = .ok (.iload_n 3, 1) := by decide +kernel
theorem dX6_layWord_212 : decode cX6_layWord 212 = .ok (.aload_n 0, 1) := by decide +kernel
theorem dX6_layWord_213 : decode cX6_layWord 213 = .ok (.getfield 12, 3) := by decide +kernel
theorem dX6_layWord_216 : decode cX6_layWord 216 = .ok (.getfield 38, 3) := by decide +kernel
theorem dX6_layWord_219 : decode cX6_layWord 219 = .ok (.iconst 1, 1) := by decide +kernel
theorem dX6_layWord_220 : decode cX6_layWord 220 = .ok (.isub, 1) := by decide +kernel
theorem dX6_layWord_221 : decode cX6_layWord 221 = .ok (.if_icmp .ne 7, 3) := by decide +kernel
theorem dX6_layWord_224 : decode cX6_layWord 224 = .ok (.iconst 1, 1) := by decide +kernel
theorem dX6_layWord_225 : decode cX6_layWord 225 = .ok (.goto 4, 3) := by decide +kernel
theorem dX6_layWord_228 : decode cX6_layWord 228 = .ok (.iconst 0, 1) := by decide +kernel
theorem dX6_layWord_229 : decode cX6_layWord 229 = .ok (.iastore, 1) := by decide +kernel
theorem dX6_layWord_230 : decode cX6_layWord 230 = .ok (.aload_n 0, 1) := by decide +kernel
theorem dX6_layWord_231 : decode cX6_layWord 231 = .ok (.getfield 20, 3) := by decide +kernel
theorem dX6_layWord_234 : decode cX6_layWord 234 = .ok (.bipush 11, 2) := by decide +kernel
theorem dX6_layWord_236 : decode cX6_layWord 236 = .ok (.aaload, 1) := by decide +kernel
theorem dX6_layWord_237 : decode cX6_layWord 237 = .ok (.aload_n 0, 1) := by decide +kernel
theorem dX6_layWord_238 : decode cX6_layWord 238 = .ok (.getfield 27, 3) := by decide +kernel
theorem dX6_layWord_241 : decode cX6_layWord 241 = .ok (.iload_n 2, 1) := by decide +kernel
theorem dX6_layWord_242 : decode cX6_layWord 242 = .ok (.iastore, 1) := by decide +kernel
theorem dX6_layWord_243 : decode cX6_layWord 243 = .ok (.aload_n 0, 1) := by decide +kernel
theorem dX6_layWord_244 : decode cX6_layWord 244 = .ok (.dup, 1) := by decide +kernel
theorem dX6_layWord_245 : decode cX6_layWord 245 = .ok (.getfield 27, 3) := by decide +kernel
theorem dX6_layWord_248 : decode cX6_layWord 248 = .ok (.iconst 1, 1) := by decide +kernel
theorem dX6_layWord_249 : decode cX6_layWord 249 = .ok (.iadd, 1) := by decide +kernel
theorem dX6_layWord_250 : decode cX6_layWord 250 = .ok (.putfield 27, 3) := by decide +kernel
theorem dX6_layWord_253 : decode cX6_layWord 253 = .ok (.iinc 5 1, 3) := by decide +kernel
theorem dX6_layWord_256 : decode cX6_layWord 256 = .ok (.goto (-253), 3) := by decide +kernel
theorem dX6_layWord_259 : decode cX6_layWord 259 = .ok (.return_, 1) := by decide +kernel
theorem dX6_applyLines_0 : decode cX6_applyLines 0 = .ok (.iconst 0, 1) := by decide +kernel
theorem dX6_applyLines_1 : decode cX6_applyLines 1 = .ok (.istore_n 3, 1) := by decide +kernel
theorem dX6_applyLines_2 : decode cX6_applyLines 2 = .ok (.iload_n 3, 1) := by decide +kernel
theorem dX6_applyLines_3 : decode cX6_applyLines 3 = .ok (.aload_n 1, 1) := by decide +kernel
theorem dX6_applyLines_4 : decode cX6_applyLines 4 = .ok (.getfield 85, 3) := by decide +kernel
theorem dX6_applyLines_7 : decode cX6_applyLines 7 = .ok (.if_icmp .ge 36, 3) := by decide +kernel
theorem dX6_applyLines_10 : decode cX6_applyLines 10 = .ok (.iconst 0, 1) := by decide +kernel
theorem dX6_applyLines_11 : decode cX6_applyLines 11 = .ok (.istore 4, 2) := by decide +kernel
theorem dX6_applyLines_13 : decode cX6_applyLines 13 = .ok (.iload 4, 2) := by decide +kernel
theorem dX6_applyLines_15 : decode cX6_applyLines 15 = .ok (.aload_n 0, 1) := by decide +kernel
theorem dX6_applyLines_16 : decode cX6_applyLines 16 = .ok (.getfield 27, 3) := by decide +kernel
theorem dX6_applyLines_19 : decode cX6_applyLines 19 = .ok (.if_icmp .ge 18, 3) := by decide +kernel
theorem dX6_applyLines_22 : decode cX6_applyLines 22 = .ok (.aload_n 0, 1) := by decide +kernel
theorem dX6_applyLines_23 : decode cX6_applyLines 23 = .ok (.aload_n 1, 1) := by decide +kernel
theorem dX6_applyLines_24 : decode cX6_applyLines 24 = .ok (.iload_n 3, 1) := by decide +kernel
theorem dX6_applyLines_25 : decode cX6_applyLines 25 = .ok (.aload_n 2, 1) := by decide +kernel
theorem dX6_applyLines_26 : decode cX6_applyLines 26 = .ok (.iload 4, 2) := by decide +kernel
theorem dX6_applyLines_28 : decode cX6_applyLines 28 = .ok (.invokevirtual 90, 3) := by decide +kernel
theorem dX6_applyLines_31 : decode cX6_applyLines 31 = .ok (.iinc 4 1, 3) := by decide +kernel
theorem dX6_applyLines_34 : decode cX6_applyLines 34 = .ok (.goto (-21), 3) := by decide +kernel
theorem dX6_applyLines_37 : decode cX6_applyLines 37 = .ok (.iinc 3 1, 3) := by decide +kernel
theorem dX6_applyLines_40 : decode cX6_applyLines 40 = .ok (.goto (-38), 3) := by decide +kernel
theorem dX6_applyLines_43 : decode cX6_applyLines 43 = .ok (.return_, 1) := by decide +kernel
theorem dX6_applyLine_0 : decode cX6_applyLine 0 = .ok (.aload_n 1, 1) := by decide +kernel
theorem dX6_applyLine_1 : decode cX6_applyLine 1 = .ok (.getfield 94, 3) := by decide +kernel
theorem dX6_applyLine_4 : decode cX6_applyLine 4 = .ok (.iload_n 2, 1) := by decide +kernel
theorem dX6_applyLine_5 : decode cX6_applyLine 5 = .ok (.iaload, 1) := by decide +kernel
theorem dX6_applyLine_6 : decode cX6_applyLine 6 = .ok (.istore 5, 2) := by decide +kernel
theorem dX6_applyLine_8 : decode cX6_applyLine 8 = .ok (.aload_n 1, 1) := by decide +kernel
theorem dX6_applyLine_9 : decode cX6_applyLine 9 = .ok (.getfield 97, 3) := by decide +kernel
theorem dX6_applyLine_12 : decode cX6_applyLine 12 = .ok (.iload_n 2, 1) := by decide +kernel
theorem dX6_applyLine_13 : decode cX6_applyLine 13 = .ok (.iaload, 1) := by decide +kernel
theorem dX6_applyLine_14 : decode cX6_applyLine 14 = .ok (.aload_n 1, 1) := by decide +kernel
theorem dX6_applyLine_15 : decode cX6_applyLine 15 = .ok (.getfield 100, 3) := by decide +kernel
theorem dX6_applyLine_18 : decode cX6_applyLine 18 = .ok (.iload_n 2, 1) := by decide +kernel
theorem dX6_applyLine_19 : decode cX6_applyLine 19 = .ok (.iaload, 1) := by decide +kernel
theorem dX6_applyLine_20 : decode cX6_applyLine 20 = .ok (.if_icmp .ge 7, 3) := by decide +kernel
theorem dX6_applyLine_23 : decode cX6_applyLine 23 = .ok (.iconst 1, 1) := by decide +kernel
theorem dX6_applyLine_24 : decode cX6_applyLine 24 = .ok (.goto 4, 3) := by decide +kernel
theorem dX6_applyLine_27 : decode cX6_applyLine 27 = .ok (.iconst 0, 1) := by decide +kernel
theorem dX6_applyLine_28 : decode cX6_applyLine 28 = .ok (.istore 6, 2) := by decide +kernel
theorem dX6_applyLine_30 : decode cX6_applyLine 30 = .ok (.iload 6, 2) := by decide +kernel
theorem dX6_applyLine_32 : decode cX6_applyLine 32 = .ok (.ifCond .eq 33, 3) := by decide +kernel
theorem dX6_applyLine_35 : decode cX6_applyLine 35 = .ok (.aload_n 3, 1) := by decide +kernel
theorem dX6_applyLine_36 : decode cX6_applyLine 36 = .ok (.aload_n 1, 1) := by decide +kernel
theorem dX6_applyLine_37 : decode cX6_applyLine 37 = .ok (.getfield 103, 3) := by decide +kernel
theorem dX6_applyLine_40 : decode cX6_applyLine 40 = .ok (.aload_n 1, 1) := by decide +kernel
theorem dX6_applyLine_41 : decode cX6_applyLine 41 = .ok (.getfield 97, 3) := by decide +kernel
theorem dX6_applyLine_44 : decode cX6_applyLine 44 = .ok (.iload_n 2, 1) := by decide +kernel
theorem dX6_applyLine_45 : decode cX6_applyLine 45 = .ok (.iaload, 1) := by decide +kernel
theorem dX6_applyLine_46 : decode cX6_applyLine 46 = .ok (.aload_n 1, 1) := by decide +kernel
theorem dX6_applyLine_47 : decode cX6_applyLine 47 = .ok (.getfield 100, 3) := by decide +kernel
theorem dX6_applyLine_50 : decode cX6_applyLine 50 = .ok (.iload_n 2, 1) := by decide +kernel
theorem dX6_applyLine_51 : decode cX6_applyLine 51 = .ok (.iaload, 1) := by decide +kernel
theorem dX6_applyLine_52 : decode cX6_applyLine 52 = .ok (.aload_n 0, 1) := by decide +kernel
theorem dX6_applyLine_53 : decode cX6_applyLine 53 = .ok (.getfield 20, 3) := by decide +kernel
theorem dX6_applyLine_56 : decode cX6_applyLine 56 = .ok (.iload 4, 2) := by decide +kernel
theorem dX6_applyLine_58 : decode cX6_applyLine 58 = .ok (.invokevirtual 106, 3) := by decide +kernel
theorem dX6_applyLine_61 : decode cX6_applyLine 61 = .ok (.ifCond .ne 4, 3) := by decide +kernel
theorem dX6_applyLine_64 : decode cX6_applyLine 64 = .ok (.return_, 1) := by decide +kernel
theorem dX6_applyLine_65 : decode cX6_applyLine 65 = .ok (.aload_n 3, 1) := by decide +kernel
theorem dX6_applyLine_66 : decode cX6_applyLine 66 = .ok (.aload_n 1, 1) := by decide +kernel
theorem dX6_applyLine_67 : decode cX6_applyLine 67 = .ok (.getfield 103, 3) := by decide +kernel
theorem dX6_applyLine_70 : decode cX6_applyLine 70 = .ok (.aload_n 1, 1) := by decide +kernel
theorem dX6_applyLine_71 : decode cX6_applyLine 71 = .ok (.getfield 112, 3) := by decide +kernel
theorem dX6_applyLine_74 : decode cX6_applyLine 74 = .ok (.iload_n 2, 1) := by decide +kernel
theorem dX6_applyLine_75 : decode cX6_applyLine 75 = .ok (.iaload, 1) := by decide +kernel
theorem dX6_applyLine_76 : decode cX6_applyLine 76 = .ok (.aload_n 1, 1) := by decide +kernel
theorem dX6_applyLine_77 : decode cX6_applyLine 77 = .ok (.getfield 97, 3) := by decide +kernel
theorem dX6_applyLine_80 : decode cX6_applyLine 80 = .ok (.iload_n 2, 1) := by decide +kernel
theorem dX6_applyLine_81 : decode cX6_applyLine 81 = .ok (.iaload, 1) := by decide +kernel
theorem dX6_applyLine_82 : decode cX6_applyLine 82 = .ok (.aload_n 0, 1) := by decide +kernel
theorem dX6_applyLine_83 : decode cX6_applyLine 83 = .ok (.getfield 20, 3) := by decide +kernel
theorem dX6_applyLine_86 : decode cX6_applyLine 86 = .ok (.iload 4, 2) := by decide +kernel
theorem dX6_applyLine_88 : decode cX6_applyLine 88 = .ok (.invokevirtual 106, 3) := by decide +kernel
theorem dX6_applyLine_91 : decode cX6_applyLine 91 = .ok (.istore 7, 2) := by decide +kernel
theorem dX6_applyLine_93 : decode cX6_applyLine 93 = .ok (.aload_n 1, 1) := by decide +kernel
theorem dX6_applyLine_94 : decode cX6_applyLine 94 = .ok (.getfield 115, 3) := by decide +kernel
theorem dX6_applyLine_97 : decode cX6_applyLine 97 = .ok (.iload_n 2, 1) := by decide +kernel
theorem dX6_applyLine_98 : decode cX6_applyLine 98 = .ok (.baload, 1) := by decide +kernel
theorem dX6_applyLine_99 : decode cX6_applyLine 99 = .ok (.ifCond .eq 19, 3) := by decide +kernel
theorem dX6_applyLine_102 : decode cX6_applyLine 102 = .ok (.aload_n 0, 1) := by decide +kernel
theorem dX6_applyLine_103 : decode cX6_applyLine 103 = .ok (.getfield 20, 3) := by decide +kernel
theorem dX6_applyLine_106 : decode cX6_applyLine 106 = .ok (.iload 5, 2) := by decide +kernel
theorem dX6_applyLine_108 : decode cX6_applyLine 108 = .ok (.aaload, 1) := by decide +kernel
theorem dX6_applyLine_109 : decode cX6_applyLine 109 = .ok (.iload 4, 2) := by decide +kernel
theorem dX6_applyLine_111 : decode cX6_applyLine 111 = .ok (.iaload, 1) := by decide +kernel
theorem dX6_applyLine_112 : decode cX6_applyLine 112 = .ok (.iload 7, 2) := by decide +kernel
theorem dX6_applyLine_114 : decode cX6_applyLine 114 = .ok (.iadd, 1) := by decide +kernel
theorem dX6_applyLine_115 : decode cX6_applyLine 115 = .ok (.goto 5, 3) := by decide +kernel
theorem dX6_applyLine_118 : decode cX6_applyLine 118 = .ok (.iload 7, 2) := by decide +kernel
theorem dX6_applyLine_120 : decode cX6_applyLine 120 = .ok (.istore 8, 2) := by decide +kernel
theorem dX6_applyLine_122 : decode cX6_applyLine 122 = .ok (.aload_n 0, 1) := by decide +kernel
theorem dX6_applyLine_123 : decode cX6_applyLine 123 = .ok (.getfield 20, 3) := by decide +kernel
theorem dX6_applyLine_126 : decode cX6_applyLine 126 = .ok (.iload 5, 2) := by decide +kernel
theorem dX6_applyLine_128 : decode cX6_applyLine 128 = .ok (.aaload, 1) := by decide +kernel
theorem dX6_applyLine_129 : decode cX6_applyLine 129 = .ok (.iload 4, 2) := by decide +kernel
theorem dX6_applyLine_131 : decode cX6_applyLine 131 = .ok (.iload 8, 2) := by decide +kernel
theorem dX6_applyLine_133 : decode cX6_applyLine 133 = .ok (.getstatic 118, 3) := by decide +kernel
theorem dX6_applyLine_136 : decode cX6_applyLine 136 = .ok (.iload 5, 2) := by decide +kernel
theorem dX6_applyLine_138 : decode cX6_applyLine 138 = .ok (.iaload, 1) := by decide +kernel
theorem dX6_applyLine_139 : decode cX6_applyLine 139 = .ok (.getstatic 121, 3) := by decide +kernel
theorem dX6_applyLine_142 : decode cX6_applyLine 142 = .ok (.iload 5, 2) := by decide +kernel
theorem dX6_applyLine_144 : decode cX6_applyLine 144 = .ok (.iaload, 1) := by decide +kernel
theorem dX6_applyLine_145 : decode cX6_applyLine 145 = .ok (.invokestatic 124, 3) := by decide +kernel
theorem dX6_applyLine_148 : decode cX6_applyLine 148 = .ok (.iastore, 1) := by decide +kernel
theorem dX6_applyLine_149 : decode cX6_applyLine 149 = .ok (.return_, 1) := by decide +kernel
theorem dX6_applyMarks_0 : decode cX6_applyMarks 0 = .ok (.iconst 0, 1) := by decide +kernel
theorem dX6_applyMarks_1 : decode cX6_applyMarks 1 = .ok (.istore_n 2, 1) := by decide +kernel
theorem dX6_applyMarks_2 : decode cX6_applyMarks 2 = .ok (.iload_n 2, 1) := by decide +kernel
theorem dX6_applyMarks_3 : decode cX6_applyMarks 3 = .ok (.iconst 3, 1) := by decide +kernel
theorem dX6_applyMarks_4 : decode cX6_applyMarks 4 = .ok (.if_icmp .ge 53, 3) := by decide +kernel
theorem dX6_applyMarks_7 : decode cX6_applyMarks 7 = .ok (.iconst 0, 1) := by decide +kernel
theorem dX6_applyMarks_8 : decode cX6_applyMarks 8 = .ok (.istore_n 3, 1) := by decide +kernel
theorem dX6_applyMarks_9 : decode cX6_applyMarks 9 = .ok (.iload_n 3, 1) := by decide +kernel
theorem dX6_applyMarks_10 : decode cX6_applyMarks 10 = .ok (.aload_n 0, 1) := by decide +kernel
theorem dX6_applyMarks_11 : decode cX6_applyMarks 11 = .ok (.getfield 27, 3) := by decide +kernel
theorem dX6_applyMarks_14 : decode cX6_applyMarks 14 = .ok (.if_icmp .ge 37, 3) := by decide +kernel
theorem dX6_applyMarks_17 : decode cX6_applyMarks 17 = .ok (.aload_n 1, 1) := by decide +kernel
theorem dX6_applyMarks_18 : decode cX6_applyMarks 18 = .ok (.getfield 128, 3) := by decide +kernel
theorem dX6_applyMarks_21 : decode cX6_applyMarks 21 = .ok (.iload_n 2, 1) := by decide +kernel
theorem dX6_applyMarks_22 : decode cX6_applyMarks 22 = .ok (.aaload, 1) := by decide +kernel
theorem dX6_applyMarks_23 : decode cX6_applyMarks 23 = .ok (.iload_n 3, 1) := by decide +kernel
theorem dX6_applyMarks_24 : decode cX6_applyMarks 24 = .ok (.iaload, 1) := by decide +kernel
theorem dX6_applyMarks_25 : decode cX6_applyMarks 25 = .ok (.iconst (-1), 1) := by decide +kernel
theorem dX6_applyMarks_26 : decode cX6_applyMarks 26 = .ok (.if_icmp .eq 19, 3) := by decide +kernel
theorem dX6_applyMarks_29 : decode cX6_applyMarks 29 = .ok (.aload_n 0, 1) := by decide +kernel
theorem dX6_applyMarks_30 : decode cX6_applyMarks 30 = .ok (.getfield 20, 3) := by decide +kernel
theorem dX6_applyMarks_33 : decode cX6_applyMarks 33 = .ok (.iload_n 2, 1) := by decide +kernel
theorem dX6_applyMarks_34 : decode cX6_applyMarks 34 = .ok (.aaload, 1) := by decide +kernel
theorem dX6_applyMarks_35 : decode cX6_applyMarks 35 = .ok (.iload_n 3, 1) := by decide +kernel
theorem dX6_applyMarks_36 : decode cX6_applyMarks 36 = .ok (.aload_n 1, 1) := by decide +kernel
theorem dX6_applyMarks_37 : decode cX6_applyMarks 37 = .ok (.getfield 128, 3) := by decide +kernel
theorem dX6_applyMarks_40 : decode cX6_applyMarks 40 = .ok (.iload_n 2, 1) := by decide +kernel
theorem dX6_applyMarks_41 : decode cX6_applyMarks 41 = .ok (.aaload, 1) := by decide +kernel
theorem dX6_applyMarks_42 : decode cX6_applyMarks 42 = .ok (.iload_n 3, 1) := by decide +kernel
theorem dX6_applyMarks_43 : decode cX6_applyMarks 43 = .ok (.iaload, 1) := by decide +kernel
theorem dX6_applyMarks_44 : decode cX6_applyMarks 44 = .ok (.iastore, 1) := by decide +kernel
theorem dX6_applyMarks_45 : decode cX6_applyMarks 45 = .ok (.iinc 3 1, 3) := by decide +kernel
theorem dX6_applyMarks_48 : decode cX6_applyMarks 48 = .ok (.goto (-39), 3) := by decide +kernel
theorem dX6_applyMarks_51 : decode cX6_applyMarks 51 = .ok (.iinc 2 1, 3) := by decide +kernel
theorem dX6_applyMarks_54 : decode cX6_applyMarks 54 = .ok (.goto (-52), 3) := by decide +kernel
theorem dX6_applyMarks_57 : decode cX6_applyMarks 57 = .ok (.return_, 1) := by decide +kernel
theorem dX6_settleHeights_0 : decode cX6_settleHeights 0 = .ok (.aload_n 0, 1) := by decide +kernel
theorem dX6_settleHeights_1 : decode cX6_settleHeights 1 = .ok (.getfield 20, 3) := by decide +kernel
theorem dX6_settleHeights_4 : decode cX6_settleHeights 4 = .ok (.iconst 1, 1) := by decide +kernel
theorem dX6_settleHeights_5 : decode cX6_settleHeights 5 = .ok (.aaload, 1) := by decide +kernel
theorem dX6_settleHeights_6 : decode cX6_settleHeights 6 = .ok (.astore_n 3, 1) := by decide +kernel
theorem dX6_settleHeights_7 : decode cX6_settleHeights 7 = .ok (.aload_n 1, 1) := by decide +kernel
theorem dX6_settleHeights_8 : decode cX6_settleHeights 8 = .ok (.getfield 128, 3) := by decide +kernel
theorem dX6_settleHeights_11 : decode cX6_settleHeights 11 = .ok (.iconst 1, 1) := by decide +kernel
theorem dX6_settleHeights_12 : decode cX6_settleHeights 12 = .ok (.aaload, 1) := by decide +kernel
theorem dX6_settleHeights_13 : decode cX6_settleHeights 13 = .ok (.astore 4, 2) := by decide +kernel
theorem dX6_settleHeights_15 : decode cX6_settleHeights 15 = .ok (.iconst 0, 1) := by decide +kernel
theorem dX6_settleHeights_16 : decode cX6_settleHeights 16 = .ok (.istore 5, 2) := by decide +kernel
theorem dX6_settleHeights_18 : decode cX6_settleHeights 18 = .ok (.iload 5, 2) := by decide +kernel
theorem dX6_settleHeights_20 : decode cX6_settleHeights 20 = .ok (.aload_n 0, 1) := by decide +kernel
theorem dX6_settleHeights_21 : decode cX6_settleHeights 21 = .ok (.getfield 27, 3) := by decide +kernel
theorem dX6_settleHeights_24 : decode cX6_settleHeights 24 = .ok (.if_icmp .ge 37, 3) := by decide +kernel
theorem dX6_settleHeights_27 : decode cX6_settleHeights 27 = .ok (.aload 4, 2) := by decide +kernel
theorem dX6_settleHeights_29 : decode cX6_settleHeights 29 = .ok (.iload 5, 2) := by decide +kernel
theorem dX6_settleHeights_31 : decode cX6_settleHeights 31 = .ok (.iaload, 1) := by decide +kernel
theorem dX6_settleHeights_32 : decode cX6_settleHeights 32 = .ok (.iconst (-1), 1) := by decide +kernel
theorem dX6_settleHeights_33 : decode cX6_settleHeights 33 = .ok (.if_icmp .ne 22, 3) := by decide +kernel
theorem dX6_settleHeights_36 : decode cX6_settleHeights 36 = .ok (.aload_n 3, 1) := by decide +kernel
theorem dX6_settleHeights_37 : decode cX6_settleHeights 37 = .ok (.iload 5, 2) := by decide +kernel
theorem dX6_settleHeights_39 : decode cX6_settleHeights 39 = .ok (.aload_n 3, 1) := by decide +kernel
theorem dX6_settleHeights_40 : decode cX6_settleHeights 40 = .ok (.iload 5, 2) := by decide +kernel
theorem dX6_settleHeights_42 : decode cX6_settleHeights 42 = .ok (.iaload, 1) := by decide +kernel
theorem dX6_settleHeights_43 : decode cX6_settleHeights 43 = .ok (.aload_n 2, 1) := by decide +kernel
theorem dX6_settleHeights_44 : decode cX6_settleHeights 44 = .ok (.getfield 131, 3) := by decide +kernel
theorem dX6_settleHeights_47 : decode cX6_settleHeights 47 = .ok (.aload_n 2, 1) := by decide +kernel
theorem dX6_settleHeights_48 : decode cX6_settleHeights 48 = .ok (.getfield 136, 3) := by decide +kernel
theorem dX6_settleHeights_51 : decode cX6_settleHeights 51 = .ok (.invokestatic 124, 3) := by decide +kernel
theorem dX6_settleHeights_54 : decode cX6_settleHeights 54 = .ok (.iastore, 1) := by decide +kernel
theorem dX6_settleHeights_55 : decode cX6_settleHeights 55 = .ok (.iinc 5 1, 3) := by decide +kernel
theorem dX6_settleHeights_58 : decode cX6_settleHeights 58 = .ok (.goto (-40), 3) := by decide +kernel
theorem dX6_settleHeights_61 : decode cX6_settleHeights 61 = .ok (.iconst 1, 1) := by decide +kernel
theorem dX6_settleHeights_62 : decode cX6_settleHeights 62 = .ok (.istore 5, 2) := by decide +kernel
theorem dX6_settleHeights_64 : decode cX6_settleHeights 64 = .ok (.iload 5, 2) := by decide +kernel
theorem dX6_settleHeights_66 : decode cX6_settleHeights 66 = .ok (.aload_n 0, 1) := by decide +kernel
theorem dX6_settleHeights_67 : decode cX6_settleHeights 67 = .ok (.getfield 27, 3) := by decide +kernel
theorem dX6_settleHeights_70 : decode cX6_settleHeights 70 = .ok (.if_icmp .ge 39, 3) := by decide +kernel
theorem dX6_settleHeights_73 : decode cX6_settleHeights 73 = .ok (.aload 4, 2) := by decide +kernel
theorem dX6_settleHeights_75 : decode cX6_settleHeights 75 = .ok (.iload 5, 2) := by decide +kernel
theorem dX6_settleHeights_77 : decode cX6_settleHeights 77 = .ok (.iaload, 1) := by decide +kernel
theorem dX6_settleHeights_78 : decode cX6_settleHeights 78 = .ok (.iconst (-1), 1) := by decide +kernel
theorem dX6_settleHeights_79 : decode cX6_settleHeights 79 = .ok (.if_icmp .ne 24, 3) := by decide +kernel
theorem dX6_settleHeights_82 : decode cX6_settleHeights 82 = .ok (.aload_n 3, 1) := by decide +kernel
theorem dX6_settleHeights_83 : decode cX6_settleHeights 83 = .ok (.iload 5, 2) := by decide +kernel
theorem dX6_settleHeights_85 : decode cX6_settleHeights 85 = .ok (.aload_n 3, 1) := by decide +kernel
theorem dX6_settleHeights_86 : decode cX6_settleHeights 86 = .ok (.iload 5, 2) := by decide +kernel
theorem dX6_settleHeights_88 : decode cX6_settleHeights 88 = .ok (.iaload, 1) := by decide +kernel
theorem dX6_settleHeights_89 : decode cX6_settleHeights 89 = .ok (.aload_n 3, 1) := by decide +kernel
theorem dX6_settleHeights_90 : decode cX6_settleHeights 90 = .ok (.iload 5, 2) := by decide +kernel
theorem dX6_settleHeights_92 : decode cX6_settleHeights 92 = .ok (.iconst 1, 1) := by decide +kernel
theorem dX6_settleHeights_93 : decode cX6_settleHeights 93 = .ok (.isub, 1) := by decide +kernel
theorem dX6_settleHeights_94 : decode cX6_settleHeights 94 = .ok (.iaload, 1) := by decide +kernel
theorem dX6_settleHeights_95 : decode cX6_settleHeights 95 = .ok (.aload_n 2, 1) := by decide +kernel
theorem dX6_settleHeights_96 : decode cX6_settleHeights 96 = .ok (.getfield 139, 3) := by decide +kernel
theorem dX6_settleHeights_99 : decode cX6_settleHeights 99 = .ok (.invokestatic 142, 3) := by decide +kernel
theorem dX6_settleHeights_102 : decode cX6_settleHeights 102 = .ok (.iastore, 1) := by decide +kernel
theorem dX6_settleHeights_103 : decode cX6_settleHeights 103 = .ok (.iinc 5 1, 3) := by decide +kernel
theorem dX6_settleHeights_106 : decode cX6_settleHeights 106 = .ok (.goto (-42), 3) := by decide +kernel
theorem dX6_settleHeights_109 : decode cX6_settleHeights 109 = .ok (.aload_n 0, 1) := by decide +kernel
theorem dX6_settleHeights_110 : decode cX6_settleHeights 110 = .ok (.getfield 27, 3) := by decide +kernel
theorem dX6_settleHeights_113 : decode cX6_settleHeights 113 = .ok (.iconst 2, 1) := by decide +kernel
theorem dX6_settleHeights_114 : decode cX6_settleHeights 114 = .ok (.isub, 1) := by decide +kernel
theorem dX6_settleHeights_115 : decode cX6_settleHeights 115 = .ok (.istore 5, 2) := by decide +kernel
theorem dX6_settleHeights_117 : decode cX6_settleHeights 117 = .ok (.iload 5, 2) := by decide +kernel
theorem dX6_settleHeights_119 : decode cX6_settleHeights 119 = .ok (.ifCond .lt 39, 3) := by decide +kernel
theorem dX6_settleHeights_122 : decode cX6_settleHeights 122 = .ok (.aload 4, 2) := by decide +kernel
theorem dX6_settleHeights_124 : decode cX6_settleHeights 124 = .ok (.iload 5, 2) := by decide +kernel
theorem dX6_settleHeights_126 : decode cX6_settleHeights 126 = .ok (.iaload, 1) := by decide +kernel
theorem dX6_settleHeights_127 : decode cX6_settleHeights 127 = .ok (.iconst (-1), 1) := by decide +kernel
theorem dX6_settleHeights_128 : decode cX6_settleHeights 128 = .ok (.if_icmp .ne 24, 3) := by decide +kernel
theorem dX6_settleHeights_131 : decode cX6_settleHeights 131 = .ok (.aload_n 3, 1) := by decide +kernel
theorem dX6_settleHeights_132 : decode cX6_settleHeights 132 = .ok (.iload 5, 2) := by decide +kernel
theorem dX6_settleHeights_134 : decode cX6_settleHeights 134 = .ok (.aload_n 3, 1) := by decide +kernel
theorem dX6_settleHeights_135 : decode cX6_settleHeights 135 = .ok (.iload 5, 2) := by decide +kernel
theorem dX6_settleHeights_137 : decode cX6_settleHeights 137 = .ok (.iaload, 1) := by decide +kernel
theorem dX6_settleHeights_138 : decode cX6_settleHeights 138 = .ok (.aload_n 3, 1) := by decide +kernel
theorem dX6_settleHeights_139 : decode cX6_settleHeights 139 = .ok (.iload 5, 2) := by decide +kernel
theorem dX6_settleHeights_141 : decode cX6_settleHeights 141 = .ok (.iconst 1, 1) := by decide +kernel
theorem dX6_settleHeights_142 : decode cX6_settleHeights 142 = .ok (.iadd, 1) := by decide +kernel
theorem dX6_settleHeights_143 : decode cX6_settleHeights 143 = .ok (.iaload, 1) := by decide +kernel
theorem dX6_settleHeights_144 : decode cX6_settleHeights 144 = .ok (.aload_n 2, 1) := by decide +kernel
theorem dX6_settleHeights_145 : decode cX6_settleHeights 145 = .ok (.getfield 139, 3) := by decide +kernel
theorem dX6_settleHeights_148 : decode cX6_settleHeights 148 = .ok (.invokestatic 142, 3) := by decide +kernel
theorem dX6_settleHeights_151 : decode cX6_settleHeights 151 = .ok (.iastore, 1) := by decide +kernel
theorem dX6_settleHeights_152 : decode cX6_settleHeights 152 = .ok (.iinc 5 (-1), 3) := by decide +kernel
theorem dX6_settleHeights_155 : decode cX6_settleHeights 155 = .ok (.goto (-38), 3) := by decide +kernel
theorem dX6_settleHeights_158 : decode cX6_settleHeights 158 = .ok (.aload_n 0, 1) := by decide +kernel
theorem dX6_settleHeights_159 : decode cX6_settleHeights 159 = .ok (.iconst 1, 1) := by decide +kernel
theorem dX6_settleHeights_160 : decode cX6_settleHeights 160 = .ok (.putfield 30, 3) := by decide +kernel
theorem dX6_settleHeights_163 : decode cX6_settleHeights 163 = .ok (.iconst 1, 1) := by decide +kernel
theorem dX6_settleHeights_164 : decode cX6_settleHeights 164 = .ok (.istore 5, 2) := by decide +kernel
theorem dX6_settleHeights_166 : decode cX6_settleHeights 166 = .ok (.iload 5, 2) := by decide +kernel
theorem dX6_settleHeights_168 : decode cX6_settleHeights 168 = .ok (.aload_n 0, 1) := by decide +kernel
theorem dX6_settleHeights_169 : decode cX6_settleHeights 169 = .ok (.getfield 27, 3) := by decide +kernel
theorem dX6_settleHeights_172 : decode cX6_settleHeights 172 = .ok (.if_icmp .ge 46, 3) := by decide +kernel
theorem dX6_settleHeights_175 : decode cX6_settleHeights 175 = .ok (.aload_n 0, 1) := by decide +kernel
theorem dX6_settleHeights_176 : decode cX6_settleHeights 176 = .ok (.aload_n 0, 1) := by decide +kernel
theorem dX6_settleHeights_177 : decode cX6_settleHeights 177 = .ok (.getfield 30, 3) := by decide +kernel
theorem dX6_settleHeights_180 : decode cX6_settleHeights 180 = .ok (.ifCond .eq 28, 3) := by decide +kernel
theorem dX6_settleHeights_183 : decode cX6_settleHeights 183 = .ok (.aload_n 3, 1) := by decide +kernel
theorem dX6_settleHeights_184 : decode cX6_settleHeights 184 = .ok (.iload 5, 2) := by decide +kernel
theorem dX6_settleHeights_186 : decode cX6_settleHeights 186 = .ok (.iaload, 1) := by decide +kernel
theorem dX6_settleHeights_187 : decode cX6_settleHeights 187 = .ok (.aload_n 3, 1) := by decide +kernel
theorem dX6_settleHeights_188 : decode cX6_settleHeights 188 = .ok (.iload 5, 2) := by decide +kernel
theorem dX6_settleHeights_190 : decode cX6_settleHeights 190 = .ok (.iconst 1, 1) := by decide +kernel
theorem dX6_settleHeights_191 : decode cX6_settleHeights 191 = .ok (.isub, 1) := by decide +kernel
theorem dX6_settleHeights_192 : decode cX6_settleHeights 192 = .ok (.iaload, 1) := by decide +kernel
theorem dX6_settleHeights_193 : decode cX6_settleHeights 193 = .ok (.isub, 1) := by decide +kernel
theorem dX6_settleHeights_194 : decode cX6_settleHeights 194 = .ok (.invokestatic 145, 3) := by decide +kernel
theorem dX6_settleHeights_197 : decode cX6_settleHeights 197 = .ok (.aload_n 2, 1) := by decide +kernel
theorem dX6_settleHeights_198 : decode cX6_settleHeights 198 = .ok (.getfield 139, 3) := by decide +kernel
theorem dX6_settleHeights_201 : decode cX6_settleHeights 201 = .ok (.if_icmp .gt 7, 3) := by decide +kernel
theorem dX6_settleHeights_204 : decode cX6_settleHeights 204 = .ok (.iconst 1, 1) := by decide +kernel
theorem dX6_settleHeights_205 : decode cX6_settleHeights 205 = .ok (.goto 4, 3) := by decide +kernel
theorem dX6_settleHeights_208 : decode cX6_settleHeights 208 = .ok (.iconst 0, 1) := by decide +kernel
theorem dX6_settleHeights_209 : decode cX6_settleHeights 209 = .ok (.putfield 30, 3) := by decide +kernel
theorem dX6_settleHeights_212 : decode cX6_settleHeights 212 = .ok (.iinc 5 1, 3) := by decide +kernel
theorem dX6_settleHeights_215 : decode cX6_settleHeights 215 = .ok (.goto (-49), 3) := by decide +kernel
theorem dX6_settleHeights_218 : decode cX6_settleHeights 218 = .ok (.return_, 1) := by decide +kernel
theorem dX6_bringNear_0 : decode cX6_bringNear 0 = .ok (.iload_n 0, 1) := by decide +kernel
theorem dX6_bringNear_1 : decode cX6_bringNear 1 = .ok (.iload_n 1, 1) := by decide +kernel
theorem dX6_bringNear_2 : decode cX6_bringNear 2 = .ok (.iload_n 2, 1) := by decide +kernel
theorem dX6_bringNear_3 : decode cX6_bringNear 3 = .ok (.isub, 1) := by decide +kernel
theorem dX6_bringNear_4 : decode cX6_bringNear 4 = .ok (.iload_n 1, 1) := by decide +kernel
theorem dX6_bringNear_5 : decode cX6_bringNear 5 = .ok (.iload_n 2, 1) := by decide +kernel
theorem dX6_bringNear_6 : decode cX6_bringNear 6 = .ok (.iadd, 1) := by decide +kernel
theorem dX6_bringNear_7 : decode cX6_bringNear 7 = .ok (.invokestatic 124, 3) := by decide +kernel
theorem dX6_bringNear_10 : decode cX6_bringNear 10 = .ok (.ireturn, 1) := by decide +kernel
theorem dX6_tellLengths_0 : decode cX6_tellLengths 0 = .ok (.iload_n 2, 1) := by decide +kernel
theorem dX6_tellLengths_1 : decode cX6_tellLengths 1 = .ok (.ifCond .gt 4, 3) := by decide +kernel
theorem dX6_tellLengths_4 : decode cX6_tellLengths 4 = .ok (.return_, 1) := by decide +kernel
theorem dX6_tellLengths_5 : decode cX6_tellLengths 5 = .ok (.iconst 0, 1) := by decide +kernel
theorem dX6_tellLengths_6 : decode cX6_tellLengths 6 = .ok (.istore_n 3, 1) := by decide +kernel
theorem dX6_tellLengths_7 : decode cX6_tellLengths 7 = .ok (.iconst 0, 1) := by decide +kernel
theorem dX6_tellLengths_8 : decode cX6_tellLengths 8 = .ok (.istore 4, 2) := by decide +kernel
theorem dX6_tellLengths_10 : decode cX6_tellLengths 10 = .ok (.iconst 0, 1) := by decide +kernel
theorem dX6_tellLengths_11 : decode cX6_tellLengths 11 = .ok (.istore 5, 2) := by decide +kernel
theorem dX6_tellLengths_13 : decode cX6_tellLengths 13 = .ok (.iload 5, 2) := by decide +kernel
theorem dX6_tellLengths_15 : decode cX6_tellLengths 15 = .ok (.aload_n 0, 1) := by decide +kernel
theorem dX6_tellLengths_16 : decode cX6_tellLengths 16 = .ok (.getfield 27, 3) := by decide +kernel
theorem dX6_tellLengths_19 : decode cX6_tellLengths 19 = .ok (.if_icmp .ge 47, 3) := by decide +kernel
theorem dX6_tellLengths_22 : decode cX6_tellLengths 22 = .ok (.iload_n 3, 1) := by decide +kernel
theorem dX6_tellLengths_23 : decode cX6_tellLengths 23 = .ok (.aload_n 0, 1) := by decide +kernel
theorem dX6_tellLengths_24 : decode cX6_tellLengths 24 = .ok (.getfield 20, 3) := by decide +kernel
theorem dX6_tellLengths_27 : decode cX6_tellLengths 27 = .ok (.iconst 0, 1) := by decide +kernel
theorem dX6_tellLengths_28 : decode cX6_tellLengths 28 = .ok (.aaload, 1) := by decide +kernel
theorem dX6_tellLengths_29 : decode cX6_tellLengths 29 = .ok (.iload 5, 2) := by decide +kernel
theorem dX6_tellLengths_31 : decode cX6_tellLengths 31 = .ok (.iaload, 1) := by decide +kernel
theorem dX6_tellLengths_32 : decode cX6_tellLengths 32 = .ok (.iadd, 1) := by decide +kernel
theorem dX6_tellLengths_33 : decode cX6_tellLengths 33 = .ok (.istore_n 3, 1) := by decide +kernel
theorem dX6_tellLengths_34 : decode cX6_tellLengths 34 = .ok (.iload_n 3, 1) := by decide +kernel
theorem dX6_tellLengths_35 : decode cX6_tellLengths 35 = .ok (.iload_n 1, 1) := by decide +kernel
theorem dX6_tellLengths_36 : decode cX6_tellLengths 36 = .ok (.imul, 1) := by decide +kernel
theorem dX6_tellLengths_37 : decode cX6_tellLengths 37 = .ok (.iload_n 2, 1) := by decide +kernel
theorem dX6_tellLengths_38 : decode cX6_tellLengths 38 = .ok (.idiv, 1) := by decide +kernel
theorem dX6_tellLengths_39 : decode cX6_tellLengths 39 = .ok (.istore 6, 2) := by decide +kernel
theorem dX6_tellLengths_41 : decode cX6_tellLengths 41 = .ok (.aload_n 0, 1) := by decide +kernel
theorem dX6_tellLengths_42 : decode cX6_tellLengths 42 = .ok (.getfield 20, 3) := by decide +kernel
theorem dX6_tellLengths_45 : decode cX6_tellLengths 45 = .ok (.bipush 13, 2) := by decide +kernel
theorem dX6_tellLengths_47 : decode cX6_tellLengths 47 = .ok (.aaload, 1) := by decide +kernel
theorem dX6_tellLengths_48 : decode cX6_tellLengths 48 = .ok (.iload 5, 2) := by decide +kernel
theorem dX6_tellLengths_50 : decode cX6_tellLengths 50 = .ok (.iload 6, 2) := by decide +kernel
theorem dX6_tellLengths_52 : decode cX6_tellLengths 52 = .ok (.iload 4, 2) := by decide +kernel
theorem dX6_tellLengths_54 : decode cX6_tellLengths 54 = .ok (.isub, 1) := by decide +kernel
theorem dX6_tellLengths_55 : decode cX6_tellLengths 55 = .ok (.iastore, 1) := by decide +kernel
theorem dX6_tellLengths_56 : decode cX6_tellLengths 56 = .ok (.iload 6, 2) := by decide +kernel
theorem dX6_tellLengths_58 : decode cX6_tellLengths 58 = .ok (.istore 4, 2) := by decide +kernel
theorem dX6_tellLengths_60 : decode cX6_tellLengths 60 = .ok (.iinc 5 1, 3) := by decide +kernel
theorem dX6_tellLengths_63 : decode cX6_tellLengths 63 = .ok (.goto (-50), 3) := by decide +kernel
theorem dX6_tellLengths_66 : decode cX6_tellLengths 66 = .ok (.return_, 1) := by decide +kernel
theorem dX6_firstUnlike_0 : decode cX6_firstUnlike 0 = .ok (.aload_n 0, 1) := by decide +kernel
theorem dX6_firstUnlike_1 : decode cX6_firstUnlike 1 = .ok (.getfield 27, 3) := by decide +kernel
theorem dX6_firstUnlike_4 : decode cX6_firstUnlike 4 = .ok (.aload_n 1, 1) := by decide +kernel
theorem dX6_firstUnlike_5 : decode cX6_firstUnlike 5 = .ok (.getfield 27, 3) := by decide +kernel
theorem dX6_firstUnlike_8 : decode cX6_firstUnlike 8 = .ok (.invokestatic 151, 3) := by decide +kernel
theorem dX6_firstUnlike_11 : decode cX6_firstUnlike 11 = .ok (.istore_n 2, 1) := by decide +kernel
theorem dX6_firstUnlike_12 : decode cX6_firstUnlike 12 = .ok (.iconst 0, 1) := by decide +kernel
theorem dX6_firstUnlike_13 : decode cX6_firstUnlike 13 = .ok (.istore_n 3, 1) := by decide +kernel
theorem dX6_firstUnlike_14 : decode cX6_firstUnlike 14 = .ok (.iload_n 3, 1) := by decide +kernel
theorem dX6_firstUnlike_15 : decode cX6_firstUnlike 15 = .ok (.iload_n 2, 1) := by decide +kernel
theorem dX6_firstUnlike_16 : decode cX6_firstUnlike 16 = .ok (.if_icmp .ge 20, 3) := by decide +kernel
theorem dX6_firstUnlike_19 : decode cX6_firstUnlike 19 = .ok (.aload_n 0, 1) := by decide +kernel
theorem dX6_firstUnlike_20 : decode cX6_firstUnlike 20 = .ok (.aload_n 1, 1) := by decide +kernel
theorem dX6_firstUnlike_21 : decode cX6_firstUnlike 21 = .ok (.iload_n 3, 1) := by decide +kernel
theorem dX6_firstUnlike_22 : decode cX6_firstUnlike 22 = .ok (.invokevirtual 155, 3) := by decide +kernel
theorem dX6_firstUnlike_25 : decode cX6_firstUnlike 25 = .ok (.ifCond .ne 5, 3) := by decide +kernel
theorem dX6_firstUnlike_28 : decode cX6_firstUnlike 28 = .ok (.iload_n 3, 1) := by decide +kernel
theorem dX6_firstUnlike_29 : decode cX6_firstUnlike 29 = .ok (.ireturn, 1) := by decide +kernel
theorem dX6_firstUnlike_30 : decode cX6_firstUnlike 30 = .ok (.iinc 3 1, 3) := by decide +kernel
theorem dX6_firstUnlike_33 : decode cX6_firstUnlike 33 = .ok (.goto (-19), 3) := by decide +kernel
theorem dX6_firstUnlike_36 : decode cX6_firstUnlike 36 = .ok (.aload_n 0, 1) := by decide +kernel
theorem dX6_firstUnlike_37 : decode cX6_firstUnlike 37 = .ok (.getfield 27, 3) := by decide +kernel
theorem dX6_firstUnlike_40 : decode cX6_firstUnlike 40 = .ok (.aload_n 1, 1) := by decide +kernel
theorem dX6_firstUnlike_41 : decode cX6_firstUnlike 41 = .ok (.getfield 27, 3) := by decide +kernel
theorem dX6_firstUnlike_44 : decode cX6_firstUnlike 44 = .ok (.if_icmp .ne 7, 3) := by decide +kernel
theorem dX6_firstUnlike_47 : decode cX6_firstUnlike 47 = .ok (.iconst (-1), 1) := by decide +kernel
theorem dX6_firstUnlike_48 : decode cX6_firstUnlike 48 = .ok (.goto 4, 3) := by decide +kernel
theorem dX6_firstUnlike_51 : decode cX6_firstUnlike 51 = .ok (.iload_n 2, 1) := by decide +kernel
theorem dX6_firstUnlike_52 : decode cX6_firstUnlike 52 = .ok (.ireturn, 1) := by decide +kernel
theorem dX6_isAlikeAt_0 : decode cX6_isAlikeAt 0 = .ok (.aload_n 0, 1) := by decide +kernel
theorem dX6_isAlikeAt_1 : decode cX6_isAlikeAt 1 = .ok (.getfield 20, 3) := by decide +kernel
theorem dX6_isAlikeAt_4 : decode cX6_isAlikeAt 4 = .ok (.bipush 13, 2) := by decide +kernel
theorem dX6_isAlikeAt_6 : decode cX6_isAlikeAt 6 = .ok (.aaload, 1) := by decide +kernel
theorem dX6_isAlikeAt_7 : decode cX6_isAlikeAt 7 = .ok (.iload_n 2, 1) := by decide +kernel
theorem dX6_isAlikeAt_8 : decode cX6_isAlikeAt 8 = .ok (.iaload, 1) := by decide +kernel
theorem dX6_isAlikeAt_9 : decode cX6_isAlikeAt 9 = .ok (.aload_n 1, 1) := by decide +kernel
theorem dX6_isAlikeAt_10 : decode cX6_isAlikeAt 10 = .ok (.getfield 20, 3) := by decide +kernel
theorem dX6_isAlikeAt_13 : decode cX6_isAlikeAt 13 = .ok (.bipush 13, 2) := by decide +kernel
theorem dX6_isAlikeAt_15 : decode cX6_isAlikeAt 15 = .ok (.aaload, 1) := by decide +kernel
theorem dX6_isAlikeAt_16 : decode cX6_isAlikeAt 16 = .ok (.iload_n 2, 1) := by decide +kernel
theorem dX6_isAlikeAt_17 : decode cX6_isAlikeAt 17 = .ok (.iaload, 1) := by decide +kernel
theorem dX6_isAlikeAt_18 : decode cX6_isAlikeAt 18 = .ok (.if_icmp .ne 80, 3) := by decide +kernel
theorem dX6_isAlikeAt_21 : decode cX6_isAlikeAt 21 = .ok (.aload_n 0, 1) := by decide +kernel
theorem dX6_isAlikeAt_22 : decode cX6_isAlikeAt 22 = .ok (.getfield 20, 3) := by decide +kernel
theorem dX6_isAlikeAt_25 : decode cX6_isAlikeAt 25 = .ok (.iconst 1, 1) := by decide +kernel
theorem dX6_isAlikeAt_26 : decode cX6_isAlikeAt 26 = .ok (.aaload, 1) := by decide +kernel
theorem dX6_isAlikeAt_27 : decode cX6_isAlikeAt 27 = .ok (.iload_n 2, 1) := by decide +kernel
theorem dX6_isAlikeAt_28 : decode cX6_isAlikeAt 28 = .ok (.iaload, 1) := by decide +kernel
theorem dX6_isAlikeAt_29 : decode cX6_isAlikeAt 29 = .ok (.aload_n 1, 1) := by decide +kernel
theorem dX6_isAlikeAt_30 : decode cX6_isAlikeAt 30 = .ok (.getfield 20, 3) := by decide +kernel
theorem dX6_isAlikeAt_33 : decode cX6_isAlikeAt 33 = .ok (.iconst 1, 1) := by decide +kernel
theorem dX6_isAlikeAt_34 : decode cX6_isAlikeAt 34 = .ok (.aaload, 1) := by decide +kernel
theorem dX6_isAlikeAt_35 : decode cX6_isAlikeAt 35 = .ok (.iload_n 2, 1) := by decide +kernel
theorem dX6_isAlikeAt_36 : decode cX6_isAlikeAt 36 = .ok (.iaload, 1) := by decide +kernel
theorem dX6_isAlikeAt_37 : decode cX6_isAlikeAt 37 = .ok (.if_icmp .ne 61, 3) := by decide +kernel
theorem dX6_isAlikeAt_40 : decode cX6_isAlikeAt 40 = .ok (.aload_n 0, 1) := by decide +kernel
theorem dX6_isAlikeAt_41 : decode cX6_isAlikeAt 41 = .ok (.getfield 20, 3) := by decide +kernel
theorem dX6_isAlikeAt_44 : decode cX6_isAlikeAt 44 = .ok (.iconst 2, 1) := by decide +kernel
theorem dX6_isAlikeAt_45 : decode cX6_isAlikeAt 45 = .ok (.aaload, 1) := by decide +kernel
theorem dX6_isAlikeAt_46 : decode cX6_isAlikeAt 46 = .ok (.iload_n 2, 1) := by decide +kernel
theorem dX6_isAlikeAt_47 : decode cX6_isAlikeAt 47 = .ok (.iaload, 1) := by decide +kernel
theorem dX6_isAlikeAt_48 : decode cX6_isAlikeAt 48 = .ok (.aload_n 1, 1) := by decide +kernel
theorem dX6_isAlikeAt_49 : decode cX6_isAlikeAt 49 = .ok (.getfield 20, 3) := by decide +kernel
theorem dX6_isAlikeAt_52 : decode cX6_isAlikeAt 52 = .ok (.iconst 2, 1) := by decide +kernel
theorem dX6_isAlikeAt_53 : decode cX6_isAlikeAt 53 = .ok (.aaload, 1) := by decide +kernel
theorem dX6_isAlikeAt_54 : decode cX6_isAlikeAt 54 = .ok (.iload_n 2, 1) := by decide +kernel
theorem dX6_isAlikeAt_55 : decode cX6_isAlikeAt 55 = .ok (.iaload, 1) := by decide +kernel
theorem dX6_isAlikeAt_56 : decode cX6_isAlikeAt 56 = .ok (.if_icmp .ne 42, 3) := by decide +kernel
theorem dX6_isAlikeAt_59 : decode cX6_isAlikeAt 59 = .ok (.aload_n 0, 1) := by decide +kernel
theorem dX6_isAlikeAt_60 : decode cX6_isAlikeAt 60 = .ok (.getfield 20, 3) := by decide +kernel
theorem dX6_isAlikeAt_63 : decode cX6_isAlikeAt 63 = .ok (.iconst 4, 1) := by decide +kernel
theorem dX6_isAlikeAt_64 : decode cX6_isAlikeAt 64 = .ok (.aaload, 1) := by decide +kernel
theorem dX6_isAlikeAt_65 : decode cX6_isAlikeAt 65 = .ok (.iload_n 2, 1) := by decide +kernel
theorem dX6_isAlikeAt_66 : decode cX6_isAlikeAt 66 = .ok (.iaload, 1) := by decide +kernel
theorem dX6_isAlikeAt_67 : decode cX6_isAlikeAt 67 = .ok (.ifCond .ne 7, 3) := by decide +kernel
theorem dX6_isAlikeAt_70 : decode cX6_isAlikeAt 70 = .ok (.iconst 1, 1) := by decide +kernel
theorem dX6_isAlikeAt_71 : decode cX6_isAlikeAt 71 = .ok (.goto 4, 3) := by decide +kernel
theorem dX6_isAlikeAt_74 : decode cX6_isAlikeAt 74 = .ok (.iconst 0, 1) := by decide +kernel
theorem dX6_isAlikeAt_75 : decode cX6_isAlikeAt 75 = .ok (.aload_n 1, 1) := by decide +kernel
theorem dX6_isAlikeAt_76 : decode cX6_isAlikeAt 76 = .ok (.getfield 20, 3) := by decide +kernel
theorem dX6_isAlikeAt_79 : decode cX6_isAlikeAt 79 = .ok (.iconst 4, 1) := by decide +kernel
theorem dX6_isAlikeAt_80 : decode cX6_isAlikeAt 80 = .ok (.aaload, 1) := by decide +kernel
theorem dX6_isAlikeAt_81 : decode cX6_isAlikeAt 81 = .ok (.iload_n 2, 1) := by decide +kernel
theorem dX6_isAlikeAt_82 : decode cX6_isAlikeAt 82 = .ok (.iaload, 1) := by decide +kernel
theorem dX6_isAlikeAt_83 : decode cX6_isAlikeAt 83 = .ok (.ifCond .ne 7, 3) := by decide +kernel
theorem dX6_isAlikeAt_86 : decode cX6_isAlikeAt 86 = .ok (.iconst 1, 1) := by decide +kernel
theorem dX6_isAlikeAt_87 : decode cX6_isAlikeAt 87 = .ok (.goto 4, 3) := by decide +kernel
theorem dX6_isAlikeAt_90 : decode cX6_isAlikeAt 90 = .ok (.iconst 0, 1) := by decide +kernel
theorem dX6_isAlikeAt_91 : decode cX6_isAlikeAt 91 = .ok (.if_icmp .ne 7, 3) := by decide +kernel
theorem dX6_isAlikeAt_94 : decode cX6_isAlikeAt 94 = .ok (.iconst 1, 1) := by decide +kernel
theorem dX6_isAlikeAt_95 : decode cX6_isAlikeAt 95 = .ok (.goto 4, 3) := by decide +kernel
theorem dX6_isAlikeAt_98 : decode cX6_isAlikeAt 98 = .ok (.iconst 0, 1) := by decide +kernel
theorem dX6_isAlikeAt_99 : decode cX6_isAlikeAt 99 = .ok (.ireturn, 1) := by decide +kernel
theorem dX7_init_0 : decode cX7_init 0 = .ok (.aload_n 0, 1) := by decide +kernel
theorem dX7_init_1 : decode cX7_init 1 = .ok (.invokespecial 3, 3) := by decide +kernel
theorem dX7_init_4 : decode cX7_init 4 = .ok (.aload_n 0, 1) := by decide +kernel
theorem dX7_init_5 : decode cX7_init 5 = .ok (.sipush 1000, 3) := by decide +kernel
theorem dX7_init_8 : decode cX7_init 8 = .ok (.newarray .byte, 2) := by decide +kernel
theorem dX7_init_10 : decode cX7_init 10 = .ok (.putfield 9, 3) := by decide +kernel
theorem dX7_init_13 : decode cX7_init 13 = .ok (.aload_n 0, 1) := by decide +kernel
theorem dX7_init_14 : decode cX7_init 14 = .ok (.iconst 0, 1) := by decide +kernel
theorem dX7_init_15 : decode cX7_init 15 = .ok (.putfield 15, 3) := by decide +kernel
theorem dX7_init_18 : decode cX7_init 18 = .ok (.return_, 1) := by decide +kernel
theorem dX7_layBytes_0 : decode cX7_layBytes 0 = .ok (.bipush 56, 2) := by decide +kernel
theorem dX7_layBytes_2 : decode cX7_layBytes 2 = .ok (.istore_n 3, 1) := by decide +kernel
theorem dX7_layBytes_3 : decode cX7_layBytes 3 = .ok (.iload_n 3, 1) := by decide +kernel
theorem dX7_layBytes_4 : decode cX7_layBytes 4 = .ok (.ifCond .lt 70, 3) := by decide +kernel
theorem dX7_layBytes_7 : decode cX7_layBytes 7 = .ok (.lload_n 1, 1) := by decide +kernel
theorem dX7_layBytes_8 : decode cX7_layBytes 8 = .ok (.iload_n 3, 1) := by decide +kernel
theorem dX7_layBytes_9 : decode cX7_layBytes 9 = .ok (.lushr, 1) := by decide +kernel
theorem dX7_layBytes_10 : decode cX7_layBytes 10 = .ok (.l2i, 1) := by decide +kernel
theorem dX7_layBytes_11 : decode cX7_layBytes 11 = .ok (.sipush 255, 3) := by decide +kernel
theorem dX7_layBytes_14 : decode cX7_layBytes 14 = .ok (.iand, 1) := by decide +kernel
theorem dX7_layBytes_15 : decode cX7_layBytes 15 = .ok (.istore 4, 2) := by decide +kernel
theorem dX7_layBytes_17 : decode cX7_layBytes 17 = .ok (.iload 4, 2) := by decide +kernel
theorem dX7_layBytes_19 : decode cX7_layBytes 19 = .ok (.bipush 10, 2) := by decide +kernel
theorem dX7_layBytes_21 : decode cX7_layBytes 21 = .ok (.if_icmp .eq 15, 3) := by decide +kernel
theorem dX7_layBytes_24 : decode cX7_layBytes 24 = .ok (.iload 4, 2) := by decide +kernel
theorem dX7_layBytes_26 : decode cX7_layBytes 26 = .ok (.bipush 32, 2) := by decide +kernel
theorem dX7_layBytes_28 : decode cX7_layBytes 28 = .ok (.bipush 126, 2) := by decide +kernel
theorem dX7_layBytes_30 : decode cX7_layBytes 30 = .ok (.invokestatic 19, 3) := by decide +kernel
theorem dX7_layBytes_33 : decode cX7_layBytes 33 = .ok (.ifCond .eq 35, 3) := by decide +kernel
theorem dX7_layBytes_36 : decode cX7_layBytes 36 = .ok (.aload_n 0, 1) := by decide +kernel
theorem dX7_layBytes_37 : decode cX7_layBytes 37 = .ok (.getfield 15, 3) := by decide +kernel
theorem dX7_layBytes_40 : decode cX7_layBytes 40 = .ok (.sipush 1000, 3) := by decide +kernel
theorem dX7_layBytes_43 : decode cX7_layBytes 43 = .ok (.if_icmp .ge 25, 3) := by decide +kernel
theorem dX7_layBytes_46 : decode cX7_layBytes 46 = .ok (.aload_n 0, 1) := by decide +kernel
theorem dX7_layBytes_47 : decode cX7_layBytes 47 = .ok (.getfield 9, 3) := by decide +kernel
theorem dX7_layBytes_50 : decode cX7_layBytes 50 = .ok (.aload_n 0, 1) := by decide +kernel
theorem dX7_layBytes_51 : decode cX7_layBytes 51 = .ok (.getfield 15, 3) := by decide +kernel
theorem dX7_layBytes_54 : decode cX7_layBytes 54 = .ok (.iload 4, 2) := by decide +kernel
theorem dX7_layBytes_56 : decode cX7_layBytes 56 = .ok (.i2b, 1) := by decide +kernel
theorem dX7_layBytes_57 : decode cX7_layBytes 57 = .ok (.bastore, 1) := by decide +kernel
theorem dX7_layBytes_58 : decode cX7_layBytes 58 = .ok (.aload_n 0, 1) := by decide +kernel
theorem dX7_layBytes_59 : decode cX7_layBytes 59 = .ok (.dup, 1) := by decide +kernel
theorem dX7_layBytes_60 : decode cX7_layBytes 60 = .ok (.getfield 15, 3) := by decide +kernel
theorem dX7_layBytes_63 : decode cX7_layBytes 63 = .ok (.iconst 1, 1) := by decide +kernel
theorem dX7_layBytes_64 : decode cX7_layBytes 64 = .ok (.iadd, 1) := by decide +kernel
theorem dX7_layBytes_65 : decode cX7_layBytes 65 = .ok (.putfield 15, 3) := by decide +kernel
theorem dX7_layBytes_68 : decode cX7_layBytes 68 = .ok (.iinc 3 (-8), 3) := by decide +kernel
theorem dX7_layBytes_71 : decode cX7_layBytes 71 = .ok (.goto (-68), 3) := by decide +kernel
theorem dX7_layBytes_74 : decode cX7_layBytes 74 = .ok (.return_, 1) := by decide +kernel
theorem dX8_init_0 : decode cX8_init 0 = .ok (.aload_n 0, 1) := by decide +kernel
theorem dX8_init_1 : decode cX8_init 1 = .ok (.invokespecial 3, 3) := by decide +kernel
theorem dX8_init_4 : decode cX8_init 4 = .ok (.aload_n 0, 1) := by decide +kernel
theorem dX8_init_5 : decode cX8_init 5 = .ok (.iconst 0, 1) := by decide +kernel
theorem dX8_init_6 : decode cX8_init 6 = .ok (.putfield 9, 3) := by decide +kernel
theorem dX8_init_9 : decode cX8_init 9 = .ok (.aload_n 0, 1) := by decide +kernel
theorem dX8_init_10 : decode cX8_init 10 = .ok (.iconst 0, 1) := by decide +kernel
theorem dX8_init_11 : decode cX8_init 11 = .ok (.iload_n 1, 1) := by decide +kernel
theorem dX8_init_12 : decode cX8_init 12 = .ok (.invokestatic 15, 3) := by decide +kernel
theorem dX8_init_15 : decode cX8_init 15 = .ok (.iconst 1, 1) := by decide +kernel
theorem dX8_init_16 : decode cX8_init 16 = .ok (.iadd, 1) := by decide +kernel
theorem dX8_init_17 : decode cX8_init 17 = .ok (.newarray .int, 2) := by decide +kernel
theorem dX8_init_19 : decode cX8_init 19 = .ok (.putfield 21, 3) := by decide +kernel
theorem dX8_init_22 : decode cX8_init 22 = .ok (.aload_n 0, 1) := by decide +kernel
theorem dX8_init_23 : decode cX8_init 23 = .ok (.iconst 0, 1) := by decide +kernel
theorem dX8_init_24 : decode cX8_init 24 = .ok (.iload_n 1, 1) := by decide +kernel
theorem dX8_init_25 : decode cX8_init 25 = .ok (.invokestatic 15, 3) := by decide +kernel
theorem dX8_init_28 : decode cX8_init 28 = .ok (.iconst 1, 1) := by decide +kernel
theorem dX8_init_29 : decode cX8_init 29 = .ok (.iadd, 1) := by decide +kernel
theorem dX8_init_30 : decode cX8_init 30 = .ok (.newarray .int, 2) := by decide +kernel
theorem dX8_init_32 : decode cX8_init 32 = .ok (.putfield 25, 3) := by decide +kernel
theorem dX8_init_35 : decode cX8_init 35 = .ok (.return_, 1) := by decide +kernel
theorem dX8_cutText_0 : decode cX8_cutText 0 = .ok (.aload_n 0, 1) := by decide +kernel
theorem dX8_cutText_1 : decode cX8_cutText 1 = .ok (.iconst 0, 1) := by decide +kernel
theorem dX8_cutText_2 : decode cX8_cutText 2 = .ok (.putfield 9, 3) := by decide +kernel
theorem dX8_cutText_5 : decode cX8_cutText 5 = .ok (.iconst 0, 1) := by decide +kernel
theorem dX8_cutText_6 : decode cX8_cutText 6 = .ok (.istore_n 2, 1) := by decide +kernel
theorem dX8_cutText_7 : decode cX8_cutText 7 = .ok (.iload_n 2, 1) := by decide +kernel
theorem dX8_cutText_8 : decode cX8_cutText 8 = .ok (.aload_n 1, 1) := by decide +kernel
theorem dX8_cutText_9 : decode cX8_cutText 9 = .ok (.getfield 28, 3) := by decide +kernel
theorem dX8_cutText_12 : decode cX8_cutText 12 = .ok (.if_icmp .ge 19, 3) := by decide +kernel
theorem dX8_cutText_15 : decode cX8_cutText 15 = .ok (.iload_n 2, 1) := by decide +kernel
theorem dX8_cutText_16 : decode cX8_cutText 16 = .ok (.iconst 1, 1) := by decide +kernel
theorem dX8_cutText_17 : decode cX8_cutText 17 = .ok (.iadd, 1) := by decide +kernel
theorem dX8_cutText_18 : decode cX8_cutText 18 = .ok (.aload_n 0, 1) := by decide +kernel
theorem dX8_cutText_19 : decode cX8_cutText 19 = .ok (.aload_n 1, 1) := by decide +kernel
theorem dX8_cutText_20 : decode cX8_cutText 20 = .ok (.iload_n 2, 1) := by decide +kernel
theorem dX8_cutText_21 : decode cX8_cutText 21 = .ok (.invokevirtual 33, 3) := by decide +kernel
theorem dX8_cutText_24 : decode cX8_cutText 24 = .ok (.invokestatic 15, 3) := by decide +kernel
theorem dX8_cutText_27 : decode cX8_cutText 27 = .ok (.istore_n 2, 1) := by decide +kernel
theorem dX8_cutText_28 : decode cX8_cutText 28 = .ok (.goto (-21), 3) := by decide +kernel
theorem dX8_cutText_31 : decode cX8_cutText 31 = .ok (.aload_n 0, 1) := by decide +kernel
theorem dX8_cutText_32 : decode cX8_cutText 32 = .ok (.bipush 24, 2) := by decide +kernel
theorem dX8_cutText_34 : decode cX8_cutText 34 = .ok (.aload_n 1, 1) := by decide +kernel
theorem dX8_cutText_35 : decode cX8_cutText 35 = .ok (.getfield 28, 3) := by decide +kernel
theorem dX8_cutText_38 : decode cX8_cutText 38 = .ok (.invokevirtual 37, 3) := by decide +kernel
theorem dX8_cutText_41 : decode cX8_cutText 41 = .ok (.return_, 1) := by decide +kernel
theorem dX8_cutOne_0 : decode cX8_cutOne 0 = .ok (.aload_n 1, 1) := by decide +kernel
theorem dX8_cutOne_1 : decode cX8_cutOne 1 = .ok (.getfield 41, 3) := by decide +kernel
theorem dX8_cutOne_4 : decode cX8_cutOne 4 = .ok (.iload_n 2, 1) := by decide +kernel
theorem dX8_cutOne_5 : decode cX8_cutOne 5 = .ok (.baload, 1) := by decide +kernel
theorem dX8_cutOne_6 : decode cX8_cutOne 6 = .ok (.istore_n 3, 1) := by decide +kernel
theorem dX8_cutOne_7 : decode cX8_cutOne 7 = .ok (.iload_n 3, 1) := by decide +kernel
theorem dX8_cutOne_8 : decode cX8_cutOne 8 = .ok (.invokestatic 45, 3) := by decide +kernel
theorem dX8_cutOne_11 : decode cX8_cutOne 11 = .ok (.ifCond .eq 29, 3) := by decide +kernel
theorem dX8_cutOne_14 : decode cX8_cutOne 14 = .ok (.aload_n 1, 1) := by decide +kernel
theorem dX8_cutOne_15 : decode cX8_cutOne 15 = .ok (.iload_n 2, 1) := by decide +kernel
theorem dX8_cutOne_16 : decode cX8_cutOne 16 = .ok (.bipush 97, 2) := by decide +kernel
theorem dX8_cutOne_18 : decode cX8_cutOne 18 = .ok (.bipush 122, 2) := by decide +kernel
theorem dX8_cutOne_20 : decode cX8_cutOne 20 = .ok (.invokestatic 49, 3) := by decide +kernel
theorem dX8_cutOne_23 : decode cX8_cutOne 23 = .ok (.istore 4, 2) := by decide +kernel
theorem dX8_cutOne_25 : decode cX8_cutOne 25 = .ok (.aload_n 0, 1) := by decide +kernel
theorem dX8_cutOne_26 : decode cX8_cutOne 26 = .ok (.aload_n 1, 1) := by decide +kernel
theorem dX8_cutOne_27 : decode cX8_cutOne 27 = .ok (.iload_n 2, 1) := by decide +kernel
theorem dX8_cutOne_28 : decode cX8_cutOne 28 = .ok (.iload 4, 2) := by decide +kernel
theorem dX8_cutOne_30 : decode cX8_cutOne 30 = .ok (.invokestatic 53, 3) := by decide +kernel
theorem dX8_cutOne_33 : decode cX8_cutOne 33 = .ok (.iload_n 2, 1) := by decide +kernel
theorem dX8_cutOne_34 : decode cX8_cutOne 34 = .ok (.invokevirtual 37, 3) := by decide +kernel
theorem dX8_cutOne_37 : decode cX8_cutOne 37 = .ok (.iload 4, 2) := by decide +kernel
theorem dX8_cutOne_39 : decode cX8_cutOne 39 = .ok (.ireturn, 1) := by decide +kernel
theorem dX8_cutOne_40 : decode cX8_cutOne 40 = .ok (.iload_n 3, 1) := by decide +kernel
theorem dX8_cutOne_41 : decode cX8_cutOne 41 = .ok (.bipush 48, 2) := by decide +kernel
theorem dX8_cutOne_43 : decode cX8_cutOne 43 = .ok (.bipush 57, 2) := by decide +kernel
theorem dX8_cutOne_45 : decode cX8_cutOne 45 = .ok (.invokestatic 57, 3) := by decide +kernel
theorem dX8_cutOne_48 : decode cX8_cutOne 48 = .ok (.ifCond .eq 29, 3) := by decide +kernel
theorem dX8_cutOne_51 : decode cX8_cutOne 51 = .ok (.aload_n 1, 1) := by decide +kernel
theorem dX8_cutOne_52 : decode cX8_cutOne 52 = .ok (.iload_n 2, 1) := by decide +kernel
theorem dX8_cutOne_53 : decode cX8_cutOne 53 = .ok (.bipush 48, 2) := by decide +kernel
theorem dX8_cutOne_55 : decode cX8_cutOne 55 = .ok (.bipush 57, 2) := by decide +kernel
theorem dX8_cutOne_57 : decode cX8_cutOne 57 = .ok (.invokestatic 49, 3) := by decide +kernel
theorem dX8_cutOne_60 : decode cX8_cutOne 60 = .ok (.istore 4, 2) := by decide +kernel
theorem dX8_cutOne_62 : decode cX8_cutOne 62 = .ok (.aload_n 0, 1) := by decide +kernel
theorem dX8_cutOne_63 : decode cX8_cutOne 63 = .ok (.aload_n 1, 1) := by decide +kernel
theorem dX8_cutOne_64 : decode cX8_cutOne 64 = .ok (.iload_n 2, 1) := by decide +kernel
theorem dX8_cutOne_65 : decode cX8_cutOne 65 = .ok (.iload 4, 2) := by decide +kernel
theorem dX8_cutOne_67 : decode cX8_cutOne 67 = .ok (.invokestatic 61, 3) := by decide +kernel
theorem dX8_cutOne_70 : decode cX8_cutOne 70 = .ok (.iload_n 2, 1) := by decide +kernel
theorem dX8_cutOne_71 : decode cX8_cutOne 71 = .ok (.invokevirtual 37, 3) := by decide +kernel
theorem dX8_cutOne_74 : decode cX8_cutOne 74 = .ok (.iload 4, 2) := by decide +kernel
theorem dX8_cutOne_76 : decode cX8_cutOne 76 = .ok (.ireturn, 1) := by decide +kernel
theorem dX8_cutOne_77 : decode cX8_cutOne 77 = .ok (.iload_n 3, 1) := by decide +kernel
theorem dX8_cutOne_78 : decode cX8_cutOne 78 = .ok (.bipush 10, 2) := by decide +kernel
theorem dX8_cutOne_80 : decode cX8_cutOne 80 = .ok (.if_icmp .eq 38, 3) := by decide +kernel
theorem dX8_cutOne_83 : decode cX8_cutOne 83 = .ok (.iload_n 3, 1) := by decide +kernel
theorem dX8_cutOne_84 : decode cX8_cutOne 84 = .ok (.bipush 32, 2) := by decide +kernel
theorem dX8_cutOne_86 : decode cX8_cutOne 86 = .ok (.if_icmp .eq 32, 3) := by decide +kernel
theorem dX8_cutOne_89 : decode cX8_cutOne 89 = .ok (.ldc 64, 2) := by decide +kernel
theorem dX8_cutOne_91 : decode cX8_cutOne 91 = .ok (.iload_n 3, 1) := by decide +kernel
theorem dX8_cutOne_92 : decode cX8_cutOne 92 = .ok (.i2c, 1) := by decide +kernel
theorem dX8_cutOne_93 : decode cX8_cutOne 93 = .ok (.invokevirtual 66, 3) := by decide +kernel
theorem dX8_cutOne_96 : decode cX8_cutOne 96 = .ok (.istore 4, 2) := by decide +kernel
theorem dX8_cutOne_98 : decode cX8_cutOne 98 = .ok (.aload_n 0, 1) := by decide +kernel
theorem dX8_cutOne_99 : decode cX8_cutOne 99 = .ok (.iload 4, 2) := by decide +kernel
theorem dX8_cutOne_101 : decode cX8_cutOne 101 = .ok (.ifCond .ge 8, 3) := by decide +kernel
theorem dX8_cutOne_104 : decode cX8_cutOne 104 = .ok (.bipush 25, 2) := by decide +kernel
theorem dX8_cutOne_106 : decode cX8_cutOne 106 = .ok (.goto 8, 3) := by decide +kernel
theorem dX8_cutOne_109 : decode cX8_cutOne 109 = .ok (.bipush 17, 2) := by decide +kernel
theorem dX8_cutOne_111 : decode cX8_cutOne 111 = .ok (.iload 4, 2) := by decide +kernel
theorem dX8_cutOne_113 : decode cX8_cutOne 113 = .ok (.iadd, 1) := by decide +kernel
theorem dX8_cutOne_114 : decode cX8_cutOne 114 = .ok (.iload_n 2, 1) := by decide +kernel
theorem dX8_cutOne_115 : decode cX8_cutOne 115 = .ok (.invokevirtual 37, 3) := by decide +kernel
theorem dX8_cutOne_118 : decode cX8_cutOne 118 = .ok (.iload_n 2, 1) := by decide +kernel
theorem dX8_cutOne_119 : decode cX8_cutOne 119 = .ok (.iconst 1, 1) := by decide +kernel
theorem dX8_cutOne_120 : decode cX8_cutOne 120 = .ok (.iadd, 1) := by decide +kernel
theorem dX8_cutOne_121 : decode cX8_cutOne 121 = .ok (.ireturn, 1) := by decide +kernel
theorem dX8_isLetter_0 : decode cX8_isLetter 0 = .ok (.iload_n 0, 1) := by decide +kernel
theorem dX8_isLetter_1 : decode cX8_isLetter 1 = .ok (.bipush 97, 2) := by decide +kernel
theorem dX8_isLetter_3 : decode cX8_isLetter 3 = .ok (.bipush 122, 2) := by decide +kernel
theorem dX8_isLetter_5 : decode cX8_isLetter 5 = .ok (.invokestatic 57, 3) := by decide +kernel
theorem dX8_isLetter_8 : decode cX8_isLetter 8 = .ok (.ireturn, 1) := by decide +kernel
theorem dX8_endOfRun_0 : decode cX8_endOfRun 0 = .ok (.iload_n 1, 1) := by decide +kernel
theorem dX8_endOfRun_1 : decode cX8_endOfRun 1 = .ok (.istore 4, 2) := by decide +kernel
theorem dX8_endOfRun_3 : decode cX8_endOfRun 3 = .ok (.iload 4, 2) := by decide +kernel
theorem dX8_endOfRun_5 : decode cX8_endOfRun 5 = .ok (.aload_n 0, 1) := by decide +kernel
theorem dX8_endOfRun_6 : decode cX8_endOfRun 6 = .ok (.getfield 28, 3) := by decide +kernel
theorem dX8_endOfRun_9 : decode cX8_endOfRun 9 = .ok (.if_icmp .ge 27, 3) := by decide +kernel
theorem dX8_endOfRun_12 : decode cX8_endOfRun 12 = .ok (.aload_n 0, 1) := by decide +kernel
theorem dX8_endOfRun_13 : decode cX8_endOfRun 13 = .ok (.getfield 41, 3) := by decide +kernel
theorem dX8_endOfRun_16 : decode cX8_endOfRun 16 = .ok (.iload 4, 2) := by decide +kernel
theorem dX8_endOfRun_18 : decode cX8_endOfRun 18 = .ok (.baload, 1) := by decide +kernel
theorem dX8_endOfRun_19 : decode cX8_endOfRun 19 = .ok (.iload_n 2, 1) := by decide +kernel
theorem dX8_endOfRun_20 : decode cX8_endOfRun 20 = .ok (.iload_n 3, 1) := by decide +kernel
theorem dX8_endOfRun_21 : decode cX8_endOfRun 21 = .ok (.invokestatic 57, 3) := by decide +kernel
theorem dX8_endOfRun_24 : decode cX8_endOfRun 24 = .ok (.ifCond .ne 6, 3) := by decide +kernel
theorem dX8_endOfRun_27 : decode cX8_endOfRun 27 = .ok (.iload 4, 2) := by decide +kernel
theorem dX8_endOfRun_29 : decode cX8_endOfRun 29 = .ok (.ireturn, 1) := by decide +kernel
theorem dX8_endOfRun_30 : decode cX8_endOfRun 30 = .ok (.iinc 4 1, 3) := by decide +kernel
theorem dX8_endOfRun_33 : decode cX8_endOfRun 33 = .ok (.goto (-30), 3) := by decide +kernel
theorem dX8_endOfRun_36 : decode cX8_endOfRun 36 = .ok (.aload_n 0, 1) := by decide +kernel
theorem dX8_endOfRun_37 : decode cX8_endOfRun 37 = .ok (.getfield 28, 3) := by decide +kernel
theorem dX8_endOfRun_40 : decode cX8_endOfRun 40 = .ok (.ireturn, 1) := by decide +kernel
theorem dX8_nameAt_0 : decode cX8_nameAt 0 = .ok (.iload_n 2, 1) := by decide +kernel
theorem dX8_nameAt_1 : decode cX8_nameAt 1 = .ok (.iload_n 1, 1) := by decide +kernel
theorem dX8_nameAt_2 : decode cX8_nameAt 2 = .ok (.isub, 1) := by decide +kernel
theorem dX8_nameAt_3 : decode cX8_nameAt 3 = .ok (.bipush 8, 2) := by decide +kernel
theorem dX8_nameAt_5 : decode cX8_nameAt 5 = .ok (.if_icmp .gt 35, 3) := by decide +kernel
theorem dX8_nameAt_8 : decode cX8_nameAt 8 = .ok (.iconst 0, 1) := by decide +kernel
theorem dX8_nameAt_9 : decode cX8_nameAt 9 = .ok (.istore_n 3, 1) := by decide +kernel
theorem dX8_nameAt_10 : decode cX8_nameAt 10 = .ok (.iload_n 3, 1) := by decide +kernel
theorem dX8_nameAt_11 : decode cX8_nameAt 11 = .ok (.ldc 72, 2) := by decide +kernel
theorem dX8_nameAt_13 : decode cX8_nameAt 13 = .ok (.invokevirtual 74, 3) := by decide +kernel
theorem dX8_nameAt_16 : decode cX8_nameAt 16 = .ok (.bipush 8, 2) := by decide +kernel
theorem dX8_nameAt_18 : decode cX8_nameAt 18 = .ok (.idiv, 1) := by decide +kernel
theorem dX8_nameAt_19 : decode cX8_nameAt 19 = .ok (.if_icmp .ge 21, 3) := by decide +kernel
theorem dX8_nameAt_22 : decode cX8_nameAt 22 = .ok (.iload_n 3, 1) := by decide +kernel
theorem dX8_nameAt_23 : decode cX8_nameAt 23 = .ok (.aload_n 0, 1) := by decide +kernel
theorem dX8_nameAt_24 : decode cX8_nameAt 24 = .ok (.iload_n 1, 1) := by decide +kernel
theorem dX8_nameAt_25 : decode cX8_nameAt 25 = .ok (.iload_n 2, 1) := by decide +kernel
theorem dX8_nameAt_26 : decode cX8_nameAt 26 = .ok (.invokestatic 78, 3) := by decide +kernel
theorem dX8_nameAt_29 : decode cX8_nameAt 29 = .ok (.ifCond .eq 5, 3) := by decide +kernel
theorem dX8_nameAt_32 : decode cX8_nameAt 32 = .ok (.iload_n 3, 1) := by decide +kernel
theorem dX8_nameAt_33 : decode cX8_nameAt 33 = .ok (.ireturn, 1) := by decide +kernel
theorem dX8_nameAt_34 : decode cX8_nameAt 34 = .ok (.iinc 3 1, 3) := by decide +kernel
theorem dX8_nameAt_37 : decode cX8_nameAt 37 = .ok (.goto (-27), 3) := by decide +kernel
theorem dX8_nameAt_40 : decode cX8_nameAt 40 = .ok (.bipush 25, 2) := by decide +kernel
theorem dX8_nameAt_42 : decode cX8_nameAt 42 = .ok (.ireturn, 1) := by decide +kernel
theorem dX8_isName_0 : decode cX8_isName 0 = .ok (.iconst 0, 1) := by decide +kernel
theorem dX8_isName_1 : decode cX8_isName 1 = .ok (.istore 4, 2) := by decide +kernel
theorem dX8_isName_3 : decode cX8_isName 3 = .ok (.iload 4, 2) := by decide +kernel
theorem dX8_isName_5 : decode cX8_isName 5 = .ok (.bipush 8, 2) := by decide +kernel
theorem dX8_isName_7 : decode cX8_isName 7 = .ok (.if_icmp .ge 52, 3) := by decide +kernel
theorem dX8_isName_10 : decode cX8_isName 10 = .ok (.iload_n 2, 1) := by decide +kernel
theorem dX8_isName_11 : decode cX8_isName 11 = .ok (.iload 4, 2) := by decide +kernel
theorem dX8_isName_13 : decode cX8_isName 13 = .ok (.iadd, 1) := by decide +kernel
theorem dX8_isName_14 : decode cX8_isName 14 = .ok (.iload_n 3, 1) := by decide +kernel
theorem dX8_isName_15 : decode cX8_isName 15 = .ok (.if_icmp .ge 15, 3) := by decide +kernel
theorem dX8_isName_18 : decode cX8_isName 18 = .ok (.aload_n 1, 1) := by decide +kernel
theorem dX8_isName_19 : decode cX8_isName 19 = .ok (.getfield 41, 3) := by decide +kernel
theorem dX8_isName_22 : decode cX8_isName 22 = .ok (.iload_n 2, 1) := by decide +kernel
theorem dX8_isName_23 : decode cX8_isName 23 = .ok (.iload 4, 2) := by decide +kernel
theorem dX8_isName_25 : decode cX8_isName 25 = .ok (.iadd, 1) := by decide +kernel
theorem dX8_isName_26 : decode cX8_isName 26 = .ok (.baload, 1) := by decide +kernel
theorem dX8_isName_27 : decode cX8_isName 27 = .ok (.goto 5, 3) := by decide +kernel
theorem dX8_isName_30 : decode cX8_isName 30 = .ok (.bipush 32, 2) := by decide +kernel
theorem dX8_isName_32 : decode cX8_isName 32 = .ok (.istore 5, 2) := by decide +kernel
theorem dX8_isName_34 : decode cX8_isName 34 = .ok (.ldc 72, 2) := by decide +kernel
theorem dX8_isName_36 : decode cX8_isName 36 = .ok (.iload_n 0, 1) := by decide +kernel
theorem dX8_isName_37 : decode cX8_isName 37 = .ok (.bipush 8, 2) := by decide +kernel
theorem dX8_isName_39 : decode cX8_isName 39 = .ok (.imul, 1) := by decide +kernel
theorem dX8_isName_40 : decode cX8_isName 40 = .ok (.iload 4, 2) := by decide +kernel
theorem dX8_isName_42 : decode cX8_isName 42 = .ok (.iadd, 1) := by decide +kernel
theorem dX8_isName_43 : decode cX8_isName 43 = .ok (.invokevirtual 82, 3) := by decide +kernel
theorem dX8_isName_46 : decode cX8_isName 46 = .ok (.iload 5, 2) := by decide +kernel
theorem dX8_isName_48 : decode cX8_isName 48 = .ok (.if_icmp .eq 5, 3) := by decide +kernel
theorem dX8_isName_51 : decode cX8_isName 51 = .ok (.iconst 0, 1) := by decide +kernel
theorem dX8_isName_52 : decode cX8_isName 52 = .ok (.ireturn, 1) := by decide +kernel
theorem dX8_isName_53 : decode cX8_isName 53 = .ok (.iinc 4 1, 3) := by decide +kernel
theorem dX8_isName_56 : decode cX8_isName 56 = .ok (.goto (-53), 3) := by decide +kernel
theorem dX8_isName_59 : decode cX8_isName 59 = .ok (.iconst 1, 1) := by decide +kernel
theorem dX8_isName_60 : decode cX8_isName 60 = .ok (.ireturn, 1) := by decide +kernel
theorem dX8_numberAt_0 : decode cX8_numberAt 0 = .ok (.iload_n 2, 1) := by decide +kernel
theorem dX8_numberAt_1 : decode cX8_numberAt 1 = .ok (.iload_n 1, 1) := by decide +kernel
theorem dX8_numberAt_2 : decode cX8_numberAt 2 = .ok (.isub, 1) := by decide +kernel
theorem dX8_numberAt_3 : decode cX8_numberAt 3 = .ok (.iconst 4, 1) := by decide +kernel
theorem dX8_numberAt_4 : decode cX8_numberAt 4 = .ok (.if_icmp .le 6, 3) := by decide +kernel
theorem dX8_numberAt_7 : decode cX8_numberAt 7 = .ok (.bipush 25, 2) := by decide +kernel
theorem dX8_numberAt_9 : decode cX8_numberAt 9 = .ok (.ireturn, 1) := by decide +kernel
theorem dX8_numberAt_10 : decode cX8_numberAt 10 = .ok (.iconst 0, 1) := by decide +kernel
theorem dX8_numberAt_11 : decode cX8_numberAt 11 = .ok (.istore_n 3, 1) := by decide +kernel
theorem dX8_numberAt_12 : decode cX8_numberAt 12 = .ok (.iload_n 1, 1) := by decide +kernel
theorem dX8_numberAt_13 : decode cX8_numberAt 13 = .ok (.istore 4, 2) := by decide +kernel
theorem dX8_numberAt_15 : decode cX8_numberAt 15 = .ok (.iload 4, 2) := by decide +kernel
theorem dX8_numberAt_17 : decode cX8_numberAt 17 = .ok (.iload_n 2, 1) := by decide +kernel
theorem dX8_numberAt_18 : decode cX8_numberAt 18 = .ok (.if_icmp .ge 25, 3) := by decide +kernel
theorem dX8_numberAt_21 : decode cX8_numberAt 21 = .ok (.iload_n 3, 1) := by decide +kernel
theorem dX8_numberAt_22 : decode cX8_numberAt 22 = .ok (.bipush 10, 2) := by decide +kernel
theorem dX8_numberAt_24 : decode cX8_numberAt 24 = .ok (.imul, 1) := by decide +kernel
theorem dX8_numberAt_25 : decode cX8_numberAt 25 = .ok (.aload_n 0, 1) := by decide +kernel
theorem dX8_numberAt_26 : decode cX8_numberAt 26 = .ok (.getfield 41, 3) := by decide +kernel
theorem dX8_numberAt_29 : decode cX8_numberAt 29 = .ok (.iload 4, 2) := by decide +kernel
theorem dX8_numberAt_31 : decode cX8_numberAt 31 = .ok (.baload, 1) := by decide +kernel
theorem dX8_numberAt_32 : decode cX8_numberAt 32 = .ok (.iadd, 1) := by decide +kernel
theorem dX8_numberAt_33 : decode cX8_numberAt 33 = .ok (.bipush 48, 2) := by decide +kernel
theorem dX8_numberAt_35 : decode cX8_numberAt 35 = .ok (.isub, 1) := by decide +kernel
theorem dX8_numberAt_36 : decode cX8_numberAt 36 = .ok (.istore_n 3, 1) := by decide +kernel
theorem dX8_numberAt_37 : decode cX8_numberAt 37 = .ok (.iinc 4 1, 3) := by decide +kernel
theorem dX8_numberAt_40 : decode cX8_numberAt 40 = .ok (.goto (-25), 3) := by decide +kernel
theorem dX8_numberAt_43 : decode cX8_numberAt 43 = .ok (.bipush 26, 2) := by decide +kernel
theorem dX8_numberAt_45 : decode cX8_numberAt 45 = .ok (.iload_n 3, 1) := by decide +kernel
theorem dX8_numberAt_46 : decode cX8_numberAt 46 = .ok (.iadd, 1) := by decide +kernel
theorem dX8_numberAt_47 : decode cX8_numberAt 47 = .ok (.ireturn, 1) := by decide +kernel
theorem dX8_addToken_0 : decode cX8_addToken 0 = .ok (.aload_n 0, 1) := by decide +kernel
theorem dX8_addToken_1 : decode cX8_addToken 1 = .ok (.getfield 9, 3) := by decide +kernel
theorem dX8_addToken_4 : decode cX8_addToken 4 = .ok (.aload_n 0, 1) := by decide +kernel
theorem dX8_addToken_5 : decode cX8_addToken 5 = .ok (.getfield 21, 3) := by decide +kernel
theorem dX8_addToken_8 : decode cX8_addToken 8 = .ok (.arraylength, 1) := by decide +kernel
theorem dX8_addToken_9 : decode cX8_addToken 9 = .ok (.if_icmp .ge 33, 3) := by decide +kernel
theorem dX8_addToken_12 : decode cX8_addToken 12 = .ok (.aload_n 0, 1) := by decide +kernel
theorem dX8_addToken_13 : decode cX8_addToken 13 = .ok (.getfield 21, 3) := by decide +kernel
theorem dX8_addToken_16 : decode cX8_addToken 16 = .ok (.aload_n 0, 1) := by decide +kernel
theorem dX8_addToken_17 : decode cX8_addToken 17 = .ok (.getfield 9, 3) := by decide +kernel
theorem dX8_addToken_20 : decode cX8_addToken 20 = .ok (.iload_n 1, 1) := by decide +kernel
theorem dX8_addToken_21 : decode cX8_addToken 21 = .ok (.iastore, 1) := by decide +kernel
theorem dX8_addToken_22 : decode cX8_addToken 22 = .ok (.aload_n 0, 1) := by decide +kernel
theorem dX8_addToken_23 : decode cX8_addToken 23 = .ok (.getfield 25, 3) := by decide +kernel
theorem dX8_addToken_26 : decode cX8_addToken 26 = .ok (.aload_n 0, 1) := by decide +kernel
theorem dX8_addToken_27 : decode cX8_addToken 27 = .ok (.getfield 9, 3) := by decide +kernel
theorem dX8_addToken_30 : decode cX8_addToken 30 = .ok (.iload_n 2, 1) := by decide +kernel
theorem dX8_addToken_31 : decode cX8_addToken 31 = .ok (.iastore, 1) := by decide +kernel
theorem dX8_addToken_32 : decode cX8_addToken 32 = .ok (.aload_n 0, 1) := by decide +kernel
theorem dX8_addToken_33 : decode cX8_addToken 33 = .ok (.dup, 1) := by decide +kernel
theorem dX8_addToken_34 : decode cX8_addToken 34 = .ok (.getfield 9, 3) := by decide +kernel
theorem dX8_addToken_37 : decode cX8_addToken 37 = .ok (.iconst 1, 1) := by decide +kernel
theorem dX8_addToken_38 : decode cX8_addToken 38 = .ok (.iadd, 1) := by decide +kernel
theorem dX8_addToken_39 : decode cX8_addToken 39 = .ok (.putfield 9, 3) := by decide +kernel
theorem dX8_addToken_42 : decode cX8_addToken 42 = .ok (.return_, 1) := by decide +kernel
theorem dX9_init_0 : decode cX9_init 0 = .ok (.aload_n 0, 1) := by decide +kernel
theorem dX9_init_1 : decode cX9_init 1 = .ok (.invokespecial 1, 3) := by decide +kernel
theorem dX9_init_4 : decode cX9_init 4 = .ok (.aload_n 0, 1) := by decide +kernel
theorem dX9_init_5 : decode cX9_init 5 = .ok (.iconst 4, 1) := by decide +kernel
theorem dX9_init_6 : decode cX9_init 6 = .ok (.anewarray 9, 3) := by decide +kernel
theorem dX9_init_9 : decode cX9_init 9 = .ok (.putfield 11, 3) := by decide +kernel
theorem dX9_init_12 : decode cX9_init 12 = .ok (.aload_n 0, 1) := by decide +kernel
theorem dX9_init_13 : decode cX9_init 13 = .ok (.iconst 1, 1) := by decide +kernel
theorem dX9_init_14 : decode cX9_init 14 = .ok (.putfield 15, 3) := by decide +kernel
theorem dX9_init_17 : decode cX9_init 17 = .ok (.aload_n 0, 1) := by decide +kernel
theorem dX9_init_18 : decode cX9_init 18 = .ok (.iconst 0, 1) := by decide +kernel
theorem dX9_init_19 : decode cX9_init 19 = .ok (.putfield 19, 3) := by decide +kernel
theorem dX9_init_22 : decode cX9_init 22 = .ok (.aload_n 0, 1) := by decide +kernel
theorem dX9_init_23 : decode cX9_init 23 = .ok (.iconst 4, 1) := by decide +kernel
theorem dX9_init_24 : decode cX9_init 24 = .ok (.anewarray 22, 3) := by decide +kernel
theorem dX9_init_27 : decode cX9_init 27 = .ok (.putfield 24, 3) := by decide +kernel
theorem dX9_init_30 : decode cX9_init 30 = .ok (.aload_n 0, 1) := by decide +kernel
theorem dX9_init_31 : decode cX9_init 31 = .ok (.iconst 0, 1) := by decide +kernel
theorem dX9_init_32 : decode cX9_init 32 = .ok (.putfield 28, 3) := by decide +kernel
theorem dX9_init_35 : decode cX9_init 35 = .ok (.aload_n 0, 1) := by decide +kernel
theorem dX9_init_36 : decode cX9_init 36 = .ok (.bipush 6, 2) := by decide +kernel
theorem dX9_init_38 : decode cX9_init 38 = .ok (.putfield 31, 3) := by decide +kernel
theorem dX9_init_41 : decode cX9_init 41 = .ok (.aload_n 0, 1) := by decide +kernel
theorem dX9_init_42 : decode cX9_init 42 = .ok (.iconst 1, 1) := by decide +kernel
theorem dX9_init_43 : decode cX9_init 43 = .ok (.putfield 34, 3) := by decide +kernel
theorem dX9_init_46 : decode cX9_init 46 = .ok (.aload_n 0, 1) := by decide +kernel
theorem dX9_init_47 : decode cX9_init 47 = .ok (.iconst 1, 1) := by decide +kernel
theorem dX9_init_48 : decode cX9_init 48 = .ok (.putfield 37, 3) := by decide +kernel
theorem dX9_init_51 : decode cX9_init 51 = .ok (.aload_n 0, 1) := by decide +kernel
theorem dX9_init_52 : decode cX9_init 52 = .ok (.new 40, 3) := by decide +kernel
theorem dX9_init_55 : decode cX9_init 55 = .ok (.dup, 1) := by decide +kernel
theorem dX9_init_56 : decode cX9_init 56 = .ok (.invokespecial 42, 3) := by decide +kernel
theorem dX9_init_59 : decode cX9_init 59 = .ok (.putfield 43, 3) := by decide +kernel
theorem dX9_init_62 : decode cX9_init 62 = .ok (.aload_n 0, 1) := by decide +kernel
theorem dX9_init_63 : decode cX9_init 63 = .ok (.new 47, 3) := by decide +kernel
theorem dX9_init_66 : decode cX9_init 66 = .ok (.dup, 1) := by decide +kernel
theorem dX9_init_67 : decode cX9_init 67 = .ok (.invokespecial 49, 3) := by decide +kernel
theorem dX9_init_70 : decode cX9_init 70 = .ok (.putfield 50, 3) := by decide +kernel
theorem dX9_init_73 : decode cX9_init 73 = .ok (.aload_n 0, 1) := by decide +kernel
theorem dX9_init_74 : decode cX9_init 74 = .ok (.new 54, 3) := by decide +kernel
theorem dX9_init_77 : decode cX9_init 77 = .ok (.dup, 1) := by decide +kernel
theorem dX9_init_78 : decode cX9_init 78 = .ok (.invokespecial 56, 3) := by decide +kernel
theorem dX9_init_81 : decode cX9_init 81 = .ok (.putfield 57, 3) := by decide +kernel
theorem dX9_init_84 : decode cX9_init 84 = .ok (.aload_n 0, 1) := by decide +kernel
theorem dX9_init_85 : decode cX9_init 85 = .ok (.new 54, 3) := by decide +kernel
theorem dX9_init_88 : decode cX9_init 88 = .ok (.dup, 1) := by decide +kernel
theorem dX9_init_89 : decode cX9_init 89 = .ok (.invokespecial 56, 3) := by decide +kernel
theorem dX9_init_92 : decode cX9_init 92 = .ok (.putfield 61, 3) := by decide +kernel
theorem dX9_init_95 : decode cX9_init 95 = .ok (.iconst 0, 1) := by decide +kernel
theorem dX9_init_96 : decode cX9_init 96 = .ok (.istore_n 1, 1) := by decide +kernel
theorem dX9_init_97 : decode cX9_init 97 = .ok (.iload_n 1, 1) := by decide +kernel
theorem dX9_init_98 : decode cX9_init 98 = .ok (.iconst 4, 1) := by decide +kernel
theorem dX9_init_99 : decode cX9_init 99 = .ok (.if_icmp .ge 22, 3) := by decide +kernel
theorem dX9_init_102 : decode cX9_init 102 = .ok (.aload_n 0, 1) := by decide +kernel
theorem dX9_init_103 : decode cX9_init 103 = .ok (.getfield 11, 3) := by decide +kernel
theorem dX9_init_106 : decode cX9_init 106 = .ok (.iload_n 1, 1) := by decide +kernel
theorem dX9_init_107 : decode cX9_init 107 = .ok (.new 9, 3) := by decide +kernel
theorem dX9_init_110 : decode cX9_init 110 = .ok (.dup, 1) := by decide +kernel
theorem dX9_init_111 : decode cX9_init 111 = .ok (.invokespecial 64, 3) := by decide +kernel
theorem dX9_init_114 : decode cX9_init 114 = .ok (.aastore, 1) := by decide +kernel
theorem dX9_init_115 : decode cX9_init 115 = .ok (.iinc 1 1, 3) := by decide +kernel
theorem dX9_init_118 : decode cX9_init 118 = .ok (.goto (-21), 3) := by decide +kernel
theorem dX9_init_121 : decode cX9_init 121 = .ok (.iconst 0, 1) := by decide +kernel
theorem dX9_init_122 : decode cX9_init 122 = .ok (.istore_n 1, 1) := by decide +kernel
theorem dX9_init_123 : decode cX9_init 123 = .ok (.iload_n 1, 1) := by decide +kernel
theorem dX9_init_124 : decode cX9_init 124 = .ok (.iconst 4, 1) := by decide +kernel
theorem dX9_init_125 : decode cX9_init 125 = .ok (.if_icmp .ge 22, 3) := by decide +kernel
theorem dX9_init_128 : decode cX9_init 128 = .ok (.aload_n 0, 1) := by decide +kernel
theorem dX9_init_129 : decode cX9_init 129 = .ok (.getfield 24, 3) := by decide +kernel
theorem dX9_init_132 : decode cX9_init 132 = .ok (.iload_n 1, 1) := by decide +kernel
theorem dX9_init_133 : decode cX9_init 133 = .ok (.new 22, 3) := by decide +kernel
theorem dX9_init_136 : decode cX9_init 136 = .ok (.dup, 1) := by decide +kernel
theorem dX9_init_137 : decode cX9_init 137 = .ok (.invokespecial 65, 3) := by decide +kernel
theorem dX9_init_140 : decode cX9_init 140 = .ok (.aastore, 1) := by decide +kernel
theorem dX9_init_141 : decode cX9_init 141 = .ok (.iinc 1 1, 3) := by decide +kernel
theorem dX9_init_144 : decode cX9_init 144 = .ok (.goto (-21), 3) := by decide +kernel
theorem dX9_init_147 : decode cX9_init 147 = .ok (.return_, 1) := by decide +kernel
theorem dX9_word_0 : decode cX9_word 0 = .ok (.aload_n 0, 1) := by decide +kernel
theorem dX9_word_1 : decode cX9_word 1 = .ok (.getfield 11, 3) := by decide +kernel
theorem dX9_word_4 : decode cX9_word 4 = .ok (.aload_n 0, 1) := by decide +kernel
theorem dX9_word_5 : decode cX9_word 5 = .ok (.getfield 19, 3) := by decide +kernel
theorem dX9_word_8 : decode cX9_word 8 = .ok (.aaload, 1) := by decide +kernel
theorem dX9_word_9 : decode cX9_word 9 = .ok (.astore 6, 2) := by decide +kernel
theorem dX9_word_11 : decode cX9_word 11 = .ok (.aload 6, 2) := by decide +kernel
theorem dX9_word_13 : decode cX9_word 13 = .ok (.getfield 66, 3) := by decide +kernel
theorem dX9_word_16 : decode cX9_word 16 = .ok (.bipush 16, 2) := by decide +kernel
theorem dX9_word_18 : decode cX9_word 18 = .ok (.if_icmp .ge 12, 3) := by decide +kernel
theorem dX9_word_21 : decode cX9_word 21 = .ok (.iload_n 1, 1) := by decide +kernel
theorem dX9_word_22 : decode cX9_word 22 = .ok (.iload_n 2, 1) := by decide +kernel
theorem dX9_word_23 : decode cX9_word 23 = .ok (.iload_n 3, 1) := by decide +kernel
theorem dX9_word_24 : decode cX9_word 24 = .ok (.invokestatic 69, 3) := by decide +kernel
theorem dX9_word_27 : decode cX9_word 27 = .ok (.ifCond .ne 5, 3) := by decide +kernel
theorem dX9_word_30 : decode cX9_word 30 = .ok (.iconst (-1), 1) := by decide +kernel
theorem dX9_word_31 : decode cX9_word 31 = .ok (.ireturn, 1) := by decide +kernel
theorem dX9_word_32 : decode cX9_word 32 = .ok (.aload 6, 2) := by decide +kernel
theorem dX9_word_34 : decode cX9_word 34 = .ok (.dup, 1) := by decide +kernel
theorem dX9_word_35 : decode cX9_word 35 = .ok (.getfield 66, 3) := by decide +kernel
theorem dX9_word_38 : decode cX9_word 38 = .ok (.iconst 1, 1) := by decide +kernel
theorem dX9_word_39 : decode cX9_word 39 = .ok (.iadd, 1) := by decide +kernel
theorem dX9_word_40 : decode cX9_word 40 = .ok (.putfield 66, 3) := by decide +kernel
theorem dX9_word_43 : decode cX9_word 43 = .ok (.aload 6, 2) := by decide +kernel
theorem dX9_word_45 : decode cX9_word 45 = .ok (.aload 6, 2) := by decide +kernel
theorem dX9_word_47 : decode cX9_word 47 = .ok (.getfield 66, 3) := by decide +kernel
theorem dX9_word_50 : decode cX9_word 50 = .ok (.iconst 1, 1) := by decide +kernel
theorem dX9_word_51 : decode cX9_word 51 = .ok (.isub, 1) := by decide +kernel
theorem dX9_word_52 : decode cX9_word 52 = .ok (.iload_n 1, 1) := by decide +kernel
theorem dX9_word_53 : decode cX9_word 53 = .ok (.iload_n 2, 1) := by decide +kernel
theorem dX9_word_54 : decode cX9_word 54 = .ok (.iload_n 3, 1) := by decide +kernel
theorem dX9_word_55 : decode cX9_word 55 = .ok (.iload 4, 2) := by decide +kernel
theorem dX9_word_57 : decode cX9_word 57 = .ok (.iload 5, 2) := by decide +kernel
theorem dX9_word_59 : decode cX9_word 59 = .ok (.invokevirtual 73, 3) := by decide +kernel
theorem dX9_word_62 : decode cX9_word 62 = .ok (.aload_n 0, 1) := by decide +kernel
theorem dX9_word_63 : decode cX9_word 63 = .ok (.invokevirtual 77, 3) := by decide +kernel
theorem dX9_word_66 : decode cX9_word 66 = .ok (.aload 6, 2) := by decide +kernel
theorem dX9_word_68 : decode cX9_word 68 = .ok (.getfield 66, 3) := by decide +kernel
theorem dX9_word_71 : decode cX9_word 71 = .ok (.ireturn, 1) := by decide +kernel
theorem dX9_change_0 : decode cX9_change 0 = .ok (.aload_n 0, 1) := by decide +kernel
theorem dX9_change_1 : decode cX9_change 1 = .ok (.getfield 11, 3) := by decide +kernel
theorem dX9_change_4 : decode cX9_change 4 = .ok (.aload_n 0, 1) := by decide +kernel
theorem dX9_change_5 : decode cX9_change 5 = .ok (.getfield 19, 3) := by decide +kernel
theorem dX9_change_8 : decode cX9_change 8 = .ok (.aaload, 1) := by decide +kernel
theorem dX9_change_9 : decode cX9_change 9 = .ok (.astore 7, 2) := by decide +kernel
theorem dX9_change_11 : decode cX9_change 11 = .ok (.iload_n 1, 1) := by decide +kernel
theorem dX9_change_12 : decode cX9_change 12 = .ok (.ifCond .lt 22, 3) := by decide +kernel
theorem dX9_change_15 : decode cX9_change 15 = .ok (.iload_n 1, 1) := by decide +kernel
theorem dX9_change_16 : decode cX9_change 16 = .ok (.aload 7, 2) := by decide +kernel
theorem dX9_change_18 : decode cX9_change 18 = .ok (.getfield 66, 3) := by decide +kernel
theorem dX9_change_21 : decode cX9_change 21 = .ok (.if_icmp .ge 13, 3) := by decide +kernel
theorem dX9_change_24 : decode cX9_change 24 = .ok (.iload_n 2, 1) := by decide +kernel
theorem dX9_change_25 : decode cX9_change 25 = .ok (.iload_n 3, 1) := by decide +kernel
theorem dX9_change_26 : decode cX9_change 26 = .ok (.iload 4, 2) := by decide +kernel
theorem dX9_change_28 : decode cX9_change 28 = .ok (.invokestatic 69, 3) := by decide +kernel
theorem dX9_change_31 : decode cX9_change 31 = .ok (.ifCond .ne 5, 3) := by decide +kernel
theorem dX9_change_34 : decode cX9_change 34 = .ok (.iconst 0, 1) := by decide +kernel
theorem dX9_change_35 : decode cX9_change 35 = .ok (.ireturn, 1) := by decide +kernel
theorem dX9_change_36 : decode cX9_change 36 = .ok (.aload 7, 2) := by decide +kernel
theorem dX9_change_38 : decode cX9_change 38 = .ok (.getfield 80, 3) := by decide +kernel
theorem dX9_change_41 : decode cX9_change 41 = .ok (.iload_n 1, 1) := by decide +kernel
theorem dX9_change_42 : decode cX9_change 42 = .ok (.iaload, 1) := by decide +kernel
theorem dX9_change_43 : decode cX9_change 43 = .ok (.iload_n 2, 1) := by decide +kernel
theorem dX9_change_44 : decode cX9_change 44 = .ok (.if_icmp .eq 8, 3) := by decide +kernel
theorem dX9_change_47 : decode cX9_change 47 = .ok (.aload 7, 2) := by decide +kernel
theorem dX9_change_49 : decode cX9_change 49 = .ok (.invokevirtual 84, 3) := by decide +kernel
theorem dX9_change_52 : decode cX9_change 52 = .ok (.aload 7, 2) := by decide +kernel
theorem dX9_change_54 : decode cX9_change 54 = .ok (.iload_n 1, 1) := by decide +kernel
theorem dX9_change_55 : decode cX9_change 55 = .ok (.iload_n 2, 1) := by decide +kernel
theorem dX9_change_56 : decode cX9_change 56 = .ok (.iload_n 3, 1) := by decide +kernel
theorem dX9_change_57 : decode cX9_change 57 = .ok (.iload 4, 2) := by decide +kernel
theorem dX9_change_59 : decode cX9_change 59 = .ok (.iload 5, 2) := by decide +kernel
theorem dX9_change_61 : decode cX9_change 61 = .ok (.iload 6, 2) := by decide +kernel
theorem dX9_change_63 : decode cX9_change 63 = .ok (.invokevirtual 73, 3) := by decide +kernel
theorem dX9_change_66 : decode cX9_change 66 = .ok (.aload_n 0, 1) := by decide +kernel
theorem dX9_change_67 : decode cX9_change 67 = .ok (.invokevirtual 77, 3) := by decide +kernel
theorem dX9_change_70 : decode cX9_change 70 = .ok (.iconst 1, 1) := by decide +kernel
theorem dX9_change_71 : decode cX9_change 71 = .ok (.ireturn, 1) := by decide +kernel
theorem dX9_reading_0 : decode cX9_reading 0 = .ok (.aload_n 0, 1) := by decide +kernel
theorem dX9_reading_1 : decode cX9_reading 1 = .ok (.getfield 15, 3) := by decide +kernel
theorem dX9_reading_4 : decode cX9_reading 4 = .ok (.iconst 4, 1) := by decide +kernel
theorem dX9_reading_5 : decode cX9_reading 5 = .ok (.if_icmp .lt 5, 3) := by decide +kernel
theorem dX9_reading_8 : decode cX9_reading 8 = .ok (.iconst (-1), 1) := by decide +kernel
theorem dX9_reading_9 : decode cX9_reading 9 = .ok (.ireturn, 1) := by decide +kernel
theorem dX9_reading_10 : decode cX9_reading 10 = .ok (.aload_n 0, 1) := by decide +kernel
theorem dX9_reading_11 : decode cX9_reading 11 = .ok (.getfield 11, 3) := by decide +kernel
theorem dX9_reading_14 : decode cX9_reading 14 = .ok (.aload_n 0, 1) := by decide +kernel
theorem dX9_reading_15 : decode cX9_reading 15 = .ok (.getfield 15, 3) := by decide +kernel
theorem dX9_reading_18 : decode cX9_reading 18 = .ok (.aaload, 1) := by decide +kernel
theorem dX9_reading_19 : decode cX9_reading 19 = .ok (.aload_n 0, 1) := by decide +kernel
theorem dX9_reading_20 : decode cX9_reading 20 = .ok (.getfield 11, 3) := by decide +kernel
theorem dX9_reading_23 : decode cX9_reading 23 = .ok (.aload_n 0, 1) := by decide +kernel
theorem dX9_reading_24 : decode cX9_reading 24 = .ok (.getfield 19, 3) := by decide +kernel
theorem dX9_reading_27 : decode cX9_reading 27 = .ok (.aaload, 1) := by decide +kernel
theorem dX9_reading_28 : decode cX9_reading 28 = .ok (.invokevirtual 87, 3) := by decide +kernel
theorem dX9_reading_31 : decode cX9_reading 31 = .ok (.aload_n 0, 1) := by decide +kernel
theorem dX9_reading_32 : decode cX9_reading 32 = .ok (.aload_n 0, 1) := by decide +kernel
theorem dX9_reading_33 : decode cX9_reading 33 = .ok (.getfield 15, 3) := by decide +kernel
theorem dX9_reading_36 : decode cX9_reading 36 = .ok (.putfield 19, 3) := by decide +kernel
theorem dX9_reading_39 : decode cX9_reading 39 = .ok (.aload_n 0, 1) := by decide +kernel
theorem dX9_reading_40 : decode cX9_reading 40 = .ok (.dup, 1) := by decide +kernel
theorem dX9_reading_41 : decode cX9_reading 41 = .ok (.getfield 15, 3) := by decide +kernel
theorem dX9_reading_44 : decode cX9_reading 44 = .ok (.iconst 1, 1) := by decide +kernel
theorem dX9_reading_45 : decode cX9_reading 45 = .ok (.iadd, 1) := by decide +kernel
theorem dX9_reading_46 : decode cX9_reading 46 = .ok (.putfield 15, 3) := by decide +kernel
theorem dX9_reading_49 : decode cX9_reading 49 = .ok (.aload_n 0, 1) := by decide +kernel
theorem dX9_reading_50 : decode cX9_reading 50 = .ok (.getfield 19, 3) := by decide +kernel
theorem dX9_reading_53 : decode cX9_reading 53 = .ok (.ireturn, 1) := by decide +kernel
theorem dX9_take_0 : decode cX9_take 0 = .ok (.aload_n 0, 1) := by decide +kernel
theorem dX9_take_1 : decode cX9_take 1 = .ok (.iload_n 1, 1) := by decide +kernel
theorem dX9_take_2 : decode cX9_take 2 = .ok (.invokevirtual 91, 3) := by decide +kernel
theorem dX9_take_5 : decode cX9_take 5 = .ok (.ifCond .ne 5, 3) := by decide +kernel
theorem dX9_take_8 : decode cX9_take 8 = .ok (.iconst 0, 1) := by decide +kernel
theorem dX9_take_9 : decode cX9_take 9 = .ok (.ireturn, 1) := by decide +kernel
theorem dX9_take_10 : decode cX9_take 10 = .ok (.aload_n 0, 1) := by decide +kernel
theorem dX9_take_11 : decode cX9_take 11 = .ok (.iload_n 1, 1) := by decide +kernel
theorem dX9_take_12 : decode cX9_take 12 = .ok (.putfield 19, 3) := by decide +kernel
theorem dX9_take_15 : decode cX9_take 15 = .ok (.iconst 1, 1) := by decide +kernel
theorem dX9_take_16 : decode cX9_take 16 = .ok (.ireturn, 1) := by decide +kernel
theorem dX9_tune_0 : decode cX9_tune 0 = .ok (.iload_n 1, 1) := by decide +kernel
theorem dX9_tune_1 : decode cX9_tune 1 = .ok (.iconst 0, 1) := by decide +kernel
theorem dX9_tune_2 : decode cX9_tune 2 = .ok (.iconst 3, 1) := by decide +kernel
theorem dX9_tune_3 : decode cX9_tune 3 = .ok (.invokestatic 95, 3) := by decide +kernel
theorem dX9_tune_6 : decode cX9_tune 6 = .ok (.ifCond .ne 5, 3) := by decide +kernel
theorem dX9_tune_9 : decode cX9_tune 9 = .ok (.iconst 0, 1) := by decide +kernel
theorem dX9_tune_10 : decode cX9_tune 10 = .ok (.ireturn, 1) := by decide +kernel
theorem dX9_tune_11 : decode cX9_tune 11 = .ok (.aload_n 0, 1) := by decide +kernel
theorem dX9_tune_12 : decode cX9_tune 12 = .ok (.getfield 11, 3) := by decide +kernel
theorem dX9_tune_15 : decode cX9_tune 15 = .ok (.aload_n 0, 1) := by decide +kernel
theorem dX9_tune_16 : decode cX9_tune 16 = .ok (.getfield 19, 3) := by decide +kernel
theorem dX9_tune_19 : decode cX9_tune 19 = .ok (.aaload, 1) := by decide +kernel
theorem dX9_tune_20 : decode cX9_tune 20 = .ok (.iload_n 1, 1) := by decide +kernel
theorem dX9_tune_21 : decode cX9_tune 21 = .ok (.putfield 98, 3) := by decide +kernel
theorem dX9_tune_24 : decode cX9_tune 24 = .ok (.aload_n 0, 1) := by decide +kernel
theorem dX9_tune_25 : decode cX9_tune 25 = .ok (.invokevirtual 77, 3) := by decide +kernel
theorem dX9_tune_28 : decode cX9_tune 28 = .ok (.iconst 1, 1) := by decide +kernel
theorem dX9_tune_29 : decode cX9_tune 29 = .ok (.ireturn, 1) := by decide +kernel
theorem dX9_ideal_0 : decode cX9_ideal 0 = .ok (.iload_n 1, 1) := by decide +kernel
theorem dX9_ideal_1 : decode cX9_ideal 1 = .ok (.iconst 1, 1) := by decide +kernel
theorem dX9_ideal_2 : decode cX9_ideal 2 = .ok (.bipush 20, 2) := by decide +kernel
theorem dX9_ideal_4 : decode cX9_ideal 4 = .ok (.invokestatic 95, 3) := by decide +kernel
theorem dX9_ideal_7 : decode cX9_ideal 7 = .ok (.ifCond .ne 5, 3) := by decide +kernel
theorem dX9_ideal_10 : decode cX9_ideal 10 = .ok (.iconst 0, 1) := by decide +kernel
theorem dX9_ideal_11 : decode cX9_ideal 11 = .ok (.ireturn, 1) := by decide +kernel
theorem dX9_ideal_12 : decode cX9_ideal 12 = .ok (.aload_n 0, 1) := by decide +kernel
theorem dX9_ideal_13 : decode cX9_ideal 13 = .ok (.iload_n 1, 1) := by decide +kernel
theorem dX9_ideal_14 : decode cX9_ideal 14 = .ok (.putfield 31, 3) := by decide +kernel
theorem dX9_ideal_17 : decode cX9_ideal 17 = .ok (.aload_n 0, 1) := by decide +kernel
theorem dX9_ideal_18 : decode cX9_ideal 18 = .ok (.invokevirtual 77, 3) := by decide +kernel
theorem dX9_ideal_21 : decode cX9_ideal 21 = .ok (.iconst 1, 1) := by decide +kernel
theorem dX9_ideal_22 : decode cX9_ideal 22 = .ok (.ireturn, 1) := by decide +kernel
theorem dX9_manner_0 : decode cX9_manner 0 = .ok (.iload_n 1, 1) := by decide +kernel
theorem dX9_manner_1 : decode cX9_manner 1 = .ok (.ifCond .lt 34, 3) := by decide +kernel
theorem dX9_manner_4 : decode cX9_manner 4 = .ok (.iload_n 1, 1) := by decide +kernel
theorem dX9_manner_5 : decode cX9_manner 5 = .ok (.iconst 4, 1) := by decide +kernel
theorem dX9_manner_6 : decode cX9_manner 6 = .ok (.if_icmp .ge 29, 3) := by decide +kernel
theorem dX9_manner_9 : decode cX9_manner 9 = .ok (.iload_n 2, 1) := by decide +kernel
theorem dX9_manner_10 : decode cX9_manner 10 = .ok (.ifCond .lt 25, 3) := by decide +kernel
theorem dX9_manner_13 : decode cX9_manner 13 = .ok (.iload_n 2, 1) := by decide +kernel
theorem dX9_manner_14 : decode cX9_manner 14 = .ok (.iload_n 3, 1) := by decide +kernel
theorem dX9_manner_15 : decode cX9_manner 15 = .ok (.if_icmp .gt 20, 3) := by decide +kernel
theorem dX9_manner_18 : decode cX9_manner 18 = .ok (.iload_n 3, 1) := by decide +kernel
theorem dX9_manner_19 : decode cX9_manner 19 = .ok (.bipush 99, 2) := by decide +kernel
theorem dX9_manner_21 : decode cX9_manner 21 = .ok (.if_icmp .gt 14, 3) := by decide +kernel
theorem dX9_manner_24 : decode cX9_manner 24 = .ok (.iload 4, 2) := by decide +kernel
theorem dX9_manner_26 : decode cX9_manner 26 = .ok (.iconst 1, 1) := by decide +kernel
theorem dX9_manner_27 : decode cX9_manner 27 = .ok (.bipush 99, 2) := by decide +kernel
theorem dX9_manner_29 : decode cX9_manner 29 = .ok (.invokestatic 95, 3) := by decide +kernel
theorem dX9_manner_32 : decode cX9_manner 32 = .ok (.ifCond .ne 5, 3) := by decide +kernel
theorem dX9_manner_35 : decode cX9_manner 35 = .ok (.iconst 0, 1) := by decide +kernel
theorem dX9_manner_36 : decode cX9_manner 36 = .ok (.ireturn, 1) := by decide +kernel
theorem dX9_manner_37 : decode cX9_manner 37 = .ok (.aload_n 0, 1) := by decide +kernel
theorem dX9_manner_38 : decode cX9_manner 38 = .ok (.iload_n 1, 1) := by decide +kernel
theorem dX9_manner_39 : decode cX9_manner 39 = .ok (.putfield 28, 3) := by decide +kernel
theorem dX9_manner_42 : decode cX9_manner 42 = .ok (.aload_n 0, 1) := by decide +kernel
theorem dX9_manner_43 : decode cX9_manner 43 = .ok (.getfield 24, 3) := by decide +kernel
theorem dX9_manner_46 : decode cX9_manner 46 = .ok (.iload_n 1, 1) := by decide +kernel
theorem dX9_manner_47 : decode cX9_manner 47 = .ok (.aaload, 1) := by decide +kernel
theorem dX9_manner_48 : decode cX9_manner 48 = .ok (.iload_n 2, 1) := by decide +kernel
theorem dX9_manner_49 : decode cX9_manner 49 = .ok (.putfield 101, 3) := by decide +kernel
theorem dX9_manner_52 : decode cX9_manner 52 = .ok (.aload_n 0, 1) := by decide +kernel
theorem dX9_manner_53 : decode cX9_manner 53 = .ok (.getfield 24, 3) := by decide +kernel
theorem dX9_manner_56 : decode cX9_manner 56 = .ok (.iload_n 1, 1) := by decide +kernel
theorem dX9_manner_57 : decode cX9_manner 57 = .ok (.aaload, 1) := by decide +kernel
theorem dX9_manner_58 : decode cX9_manner 58 = .ok (.iload_n 3, 1) := by decide +kernel
theorem dX9_manner_59 : decode cX9_manner 59 = .ok (.putfield 104, 3) := by decide +kernel
theorem dX9_manner_62 : decode cX9_manner 62 = .ok (.aload_n 0, 1) := by decide +kernel
theorem dX9_manner_63 : decode cX9_manner 63 = .ok (.getfield 24, 3) := by decide +kernel
theorem dX9_manner_66 : decode cX9_manner 66 = .ok (.iload_n 1, 1) := by decide +kernel
theorem dX9_manner_67 : decode cX9_manner 67 = .ok (.aaload, 1) := by decide +kernel
theorem dX9_manner_68 : decode cX9_manner 68 = .ok (.iload 4, 2) := by decide +kernel
theorem dX9_manner_70 : decode cX9_manner 70 = .ok (.putfield 107, 3) := by decide +kernel
theorem dX9_manner_73 : decode cX9_manner 73 = .ok (.aload_n 0, 1) := by decide +kernel
theorem dX9_manner_74 : decode cX9_manner 74 = .ok (.invokevirtual 77, 3) := by decide +kernel
theorem dX9_manner_77 : decode cX9_manner 77 = .ok (.iconst 1, 1) := by decide +kernel
theorem dX9_manner_78 : decode cX9_manner 78 = .ok (.ireturn, 1) := by decide +kernel
theorem dX9_feed_0 : decode cX9_feed 0 = .ok (.aload_n 0, 1) := by decide +kernel
theorem dX9_feed_1 : decode cX9_feed 1 = .ok (.getfield 43, 3) := by decide +kernel
theorem dX9_feed_4 : decode cX9_feed 4 = .ok (.lload_n 1, 1) := by decide +kernel
theorem dX9_feed_5 : decode cX9_feed 5 = .ok (.invokevirtual 110, 3) := by decide +kernel
theorem dX9_feed_8 : decode cX9_feed 8 = .ok (.aload_n 0, 1) := by decide +kernel
theorem dX9_feed_9 : decode cX9_feed 9 = .ok (.getfield 43, 3) := by decide +kernel
theorem dX9_feed_12 : decode cX9_feed 12 = .ok (.lload_n 3, 1) := by decide +kernel
theorem dX9_feed_13 : decode cX9_feed 13 = .ok (.invokevirtual 110, 3) := by decide +kernel
theorem dX9_feed_16 : decode cX9_feed 16 = .ok (.aload_n 0, 1) := by decide +kernel
theorem dX9_feed_17 : decode cX9_feed 17 = .ok (.getfield 43, 3) := by decide +kernel
theorem dX9_feed_20 : decode cX9_feed 20 = .ok (.lload 5, 2) := by decide +kernel
theorem dX9_feed_22 : decode cX9_feed 22 = .ok (.invokevirtual 110, 3) := by decide +kernel
theorem dX9_feed_25 : decode cX9_feed 25 = .ok (.aload_n 0, 1) := by decide +kernel
theorem dX9_feed_26 : decode cX9_feed 26 = .ok (.getfield 43, 3) := by decide +kernel
theorem dX9_feed_29 : decode cX9_feed 29 = .ok (.getfield 114, 3) := by decide +kernel
theorem dX9_feed_32 : decode cX9_feed 32 = .ok (.ireturn, 1) := by decide +kernel
theorem dX9_rules_0 : decode cX9_rules 0 = .ok (.new 117, 3) := by decide +kernel
theorem dX9_rules_3 : decode cX9_rules 3 = .ok (.dup, 1) := by decide +kernel
theorem dX9_rules_4 : decode cX9_rules 4 = .ok (.aload_n 0, 1) := by decide +kernel
theorem dX9_rules_5 : decode cX9_rules 5 = .ok (.getfield 43, 3) := by decide +kernel
theorem dX9_rules_8 : decode cX9_rules 8 = .ok (.getfield 114, 3) := by decide +kernel
theorem dX9_rules_11 : decode cX9_rules 11 = .ok (.invokespecial 119, 3) := by decide +kernel
theorem dX9_rules_14 : decode cX9_rules 14 = .ok (.astore_n 1, 1) := by decide +kernel
theorem dX9_rules_15 : decode cX9_rules 15 = .ok (.aload_n 1, 1) := by decide +kernel
theorem dX9_rules_16 : decode cX9_rules 16 = .ok (.aload_n 0, 1) := by decide +kernel
theorem dX9_rules_17 : decode cX9_rules 17 = .ok (.getfield 43, 3) := by decide +kernel
theorem dX9_rules_20 : decode cX9_rules 20 = .ok (.invokevirtual 122, 3) := by decide +kernel
theorem dX9_rules_23 : decode cX9_rules 23 = .ok (.istore_n 2, 1) := by decide +kernel
theorem dX9_rules_24 : decode cX9_rules 24 = .ok (.aload_n 0, 1) := by decide +kernel
theorem dX9_rules_25 : decode cX9_rules 25 = .ok (.getfield 43, 3) := by decide +kernel
theorem dX9_rules_28 : decode cX9_rules 28 = .ok (.iconst 0, 1) := by decide +kernel
theorem dX9_rules_29 : decode cX9_rules 29 = .ok (.putfield 114, 3) := by decide +kernel
theorem dX9_rules_32 : decode cX9_rules 32 = .ok (.iload_n 2, 1) := by decide +kernel
theorem dX9_rules_33 : decode cX9_rules 33 = .ok (.ifCond .ne 23, 3) := by decide +kernel
theorem dX9_rules_36 : decode cX9_rules 36 = .ok (.aload_n 0, 1) := by decide +kernel
theorem dX9_rules_37 : decode cX9_rules 37 = .ok (.getfield 24, 3) := by decide +kernel
theorem dX9_rules_40 : decode cX9_rules 40 = .ok (.aload_n 0, 1) := by decide +kernel
theorem dX9_rules_41 : decode cX9_rules 41 = .ok (.getfield 28, 3) := by decide +kernel
theorem dX9_rules_44 : decode cX9_rules 44 = .ok (.aaload, 1) := by decide +kernel
theorem dX9_rules_45 : decode cX9_rules 45 = .ok (.aload_n 1, 1) := by decide +kernel
theorem dX9_rules_46 : decode cX9_rules 46 = .ok (.getfield 126, 3) := by decide +kernel
theorem dX9_rules_49 : decode cX9_rules 49 = .ok (.putfield 130, 3) := by decide +kernel
theorem dX9_rules_52 : decode cX9_rules 52 = .ok (.aload_n 0, 1) := by decide +kernel
theorem dX9_rules_53 : decode cX9_rules 53 = .ok (.invokevirtual 77, 3) := by decide +kernel
theorem dX9_rules_56 : decode cX9_rules 56 = .ok (.iload_n 2, 1) := by decide +kernel
theorem dX9_rules_57 : decode cX9_rules 57 = .ok (.ireturn, 1) := by decide +kernel
theorem dX9_hand_0 : decode cX9_hand 0 = .ok (.aload_n 0, 1) := by decide +kernel
theorem dX9_hand_1 : decode cX9_hand 1 = .ok (.getfield 11, 3) := by decide +kernel
theorem dX9_hand_4 : decode cX9_hand 4 = .ok (.aload_n 0, 1) := by decide +kernel
theorem dX9_hand_5 : decode cX9_hand 5 = .ok (.getfield 19, 3) := by decide +kernel
theorem dX9_hand_8 : decode cX9_hand 8 = .ok (.aaload, 1) := by decide +kernel
theorem dX9_hand_9 : decode cX9_hand 9 = .ok (.astore 4, 2) := by decide +kernel
theorem dX9_hand_11 : decode cX9_hand 11 = .ok (.iload_n 1, 1) := by decide +kernel
theorem dX9_hand_12 : decode cX9_hand 12 = .ok (.ifCond .lt 21, 3) := by decide +kernel
theorem dX9_hand_15 : decode cX9_hand 15 = .ok (.iload_n 1, 1) := by decide +kernel
theorem dX9_hand_16 : decode cX9_hand 16 = .ok (.aload 4, 2) := by decide +kernel
theorem dX9_hand_18 : decode cX9_hand 18 = .ok (.getfield 133, 3) := by decide +kernel
theorem dX9_hand_21 : decode cX9_hand 21 = .ok (.if_icmp .ge 12, 3) := by decide +kernel
theorem dX9_hand_24 : decode cX9_hand 24 = .ok (.iload_n 2, 1) := by decide +kernel
theorem dX9_hand_25 : decode cX9_hand 25 = .ok (.ifCond .lt 8, 3) := by decide +kernel
theorem dX9_hand_28 : decode cX9_hand 28 = .ok (.iload_n 2, 1) := by decide +kernel
theorem dX9_hand_29 : decode cX9_hand 29 = .ok (.iconst 3, 1) := by decide +kernel
theorem dX9_hand_30 : decode cX9_hand 30 = .ok (.if_icmp .lt 5, 3) := by decide +kernel
theorem dX9_hand_33 : decode cX9_hand 33 = .ok (.iconst 0, 1) := by decide +kernel
theorem dX9_hand_34 : decode cX9_hand 34 = .ok (.ireturn, 1) := by decide +kernel
theorem dX9_hand_35 : decode cX9_hand 35 = .ok (.iload_n 3, 1) := by decide +kernel
theorem dX9_hand_36 : decode cX9_hand 36 = .ok (.iconst (-1), 1) := by decide +kernel
theorem dX9_hand_37 : decode cX9_hand 37 = .ok (.if_icmp .eq 22, 3) := by decide +kernel
theorem dX9_hand_40 : decode cX9_hand 40 = .ok (.iload_n 3, 1) := by decide +kernel
theorem dX9_hand_41 : decode cX9_hand 41 = .ok (.getstatic 136, 3) := by decide +kernel
theorem dX9_hand_44 : decode cX9_hand 44 = .ok (.iload_n 2, 1) := by decide +kernel
theorem dX9_hand_45 : decode cX9_hand 45 = .ok (.iaload, 1) := by decide +kernel
theorem dX9_hand_46 : decode cX9_hand 46 = .ok (.getstatic 139, 3) := by decide +kernel
theorem dX9_hand_49 : decode cX9_hand 49 = .ok (.iload_n 2, 1) := by decide +kernel
theorem dX9_hand_50 : decode cX9_hand 50 = .ok (.iaload, 1) := by decide +kernel
theorem dX9_hand_51 : decode cX9_hand 51 = .ok (.invokestatic 95, 3) := by decide +kernel
theorem dX9_hand_54 : decode cX9_hand 54 = .ok (.ifCond .ne 5, 3) := by decide +kernel
theorem dX9_hand_57 : decode cX9_hand 57 = .ok (.iconst 0, 1) := by decide +kernel
theorem dX9_hand_58 : decode cX9_hand 58 = .ok (.ireturn, 1) := by decide +kernel
theorem dX9_hand_59 : decode cX9_hand 59 = .ok (.aload 4, 2) := by decide +kernel
theorem dX9_hand_61 : decode cX9_hand 61 = .ok (.getfield 142, 3) := by decide +kernel
theorem dX9_hand_64 : decode cX9_hand 64 = .ok (.iload_n 2, 1) := by decide +kernel
theorem dX9_hand_65 : decode cX9_hand 65 = .ok (.aaload, 1) := by decide +kernel
theorem dX9_hand_66 : decode cX9_hand 66 = .ok (.iload_n 1, 1) := by decide +kernel
theorem dX9_hand_67 : decode cX9_hand 67 = .ok (.iload_n 3, 1) := by decide +kernel
theorem dX9_hand_68 : decode cX9_hand 68 = .ok (.iastore, 1) := by decide +kernel
theorem dX9_hand_69 : decode cX9_hand 69 = .ok (.aload_n 0, 1) := by decide +kernel
theorem dX9_hand_70 : decode cX9_hand 70 = .ok (.invokevirtual 77, 3) := by decide +kernel
theorem dX9_hand_73 : decode cX9_hand 73 = .ok (.iconst 1, 1) := by decide +kernel
theorem dX9_hand_74 : decode cX9_hand 74 = .ok (.ireturn, 1) := by decide +kernel
theorem dX9_speed_0 : decode cX9_speed 0 = .ok (.iload_n 1, 1) := by decide +kernel
theorem dX9_speed_1 : decode cX9_speed 1 = .ok (.iconst 1, 1) := by decide +kernel
theorem dX9_speed_2 : decode cX9_speed 2 = .ok (.bipush 100, 2) := by decide +kernel
theorem dX9_speed_4 : decode cX9_speed 4 = .ok (.invokestatic 95, 3) := by decide +kernel
theorem dX9_speed_7 : decode cX9_speed 7 = .ok (.ifCond .eq 13, 3) := by decide +kernel
theorem dX9_speed_10 : decode cX9_speed 10 = .ok (.iload_n 2, 1) := by decide +kernel
theorem dX9_speed_11 : decode cX9_speed 11 = .ok (.iconst 1, 1) := by decide +kernel
theorem dX9_speed_12 : decode cX9_speed 12 = .ok (.bipush 100, 2) := by decide +kernel
theorem dX9_speed_14 : decode cX9_speed 14 = .ok (.invokestatic 95, 3) := by decide +kernel
theorem dX9_speed_17 : decode cX9_speed 17 = .ok (.ifCond .ne 5, 3) := by decide +kernel
theorem dX9_speed_20 : decode cX9_speed 20 = .ok (.iconst 0, 1) := by decide +kernel
theorem dX9_speed_21 : decode cX9_speed 21 = .ok (.ireturn, 1) := by decide +kernel
theorem dX9_speed_22 : decode cX9_speed 22 = .ok (.aload_n 0, 1) := by decide +kernel
theorem dX9_speed_23 : decode cX9_speed 23 = .ok (.iload_n 1, 1) := by decide +kernel
theorem dX9_speed_24 : decode cX9_speed 24 = .ok (.putfield 34, 3) := by decide +kernel
theorem dX9_speed_27 : decode cX9_speed 27 = .ok (.aload_n 0, 1) := by decide +kernel
theorem dX9_speed_28 : decode cX9_speed 28 = .ok (.iload_n 2, 1) := by decide +kernel
theorem dX9_speed_29 : decode cX9_speed 29 = .ok (.putfield 37, 3) := by decide +kernel
theorem dX9_speed_32 : decode cX9_speed 32 = .ok (.aload_n 0, 1) := by decide +kernel
theorem dX9_speed_33 : decode cX9_speed 33 = .ok (.invokevirtual 77, 3) := by decide +kernel
theorem dX9_speed_36 : decode cX9_speed 36 = .ok (.iconst 1, 1) := by decide +kernel
theorem dX9_speed_37 : decode cX9_speed 37 = .ok (.ireturn, 1) := by decide +kernel
theorem dX9_phrases_0 : decode cX9_phrases 0 = .ok (.aload_n 0, 1) := by decide +kernel
theorem dX9_phrases_1 : decode cX9_phrases 1 = .ok (.invokevirtual 146, 3) := by decide +kernel
theorem dX9_phrases_4 : decode cX9_phrases 4 = .ok (.getfield 150, 3) := by decide +kernel
theorem dX9_phrases_7 : decode cX9_phrases 7 = .ok (.getfield 154, 3) := by decide +kernel
theorem dX9_phrases_10 : decode cX9_phrases 10 = .ok (.ireturn, 1) := by decide +kernel
theorem dX9_phrase_0 : decode cX9_phrase 0 = .ok (.aload_n 0, 1) := by decide +kernel
theorem dX9_phrase_1 : decode cX9_phrase 1 = .ok (.invokevirtual 146, 3) := by decide +kernel
theorem dX9_phrase_4 : decode cX9_phrase 4 = .ok (.getfield 150, 3) := by decide +kernel
theorem dX9_phrase_7 : decode cX9_phrase 7 = .ok (.astore_n 3, 1) := by decide +kernel
theorem dX9_phrase_8 : decode cX9_phrase 8 = .ok (.iload_n 1, 1) := by decide +kernel
theorem dX9_phrase_9 : decode cX9_phrase 9 = .ok (.ifCond .lt 11, 3) := by decide +kernel
theorem dX9_phrase_12 : decode cX9_phrase 12 = .ok (.iload_n 1, 1) := by decide +kernel
theorem dX9_phrase_13 : decode cX9_phrase 13 = .ok (.aload_n 3, 1) := by decide +kernel
theorem dX9_phrase_14 : decode cX9_phrase 14 = .ok (.getfield 154, 3) := by decide +kernel
theorem dX9_phrase_17 : decode cX9_phrase 17 = .ok (.if_icmp .lt 5, 3) := by decide +kernel
theorem dX9_phrase_20 : decode cX9_phrase 20 = .ok (.iconst (-1), 1) := by decide +kernel
theorem dX9_phrase_21 : decode cX9_phrase 21 = .ok (.ireturn, 1) := by decide +kernel
theorem dX9_phrase_22 : decode cX9_phrase 22 = .ok (.iload_n 2, 1) := by decide +kernel
theorem dX9_phrase_23 : decode cX9_phrase 23 = .ok (.tableswitch 68 0 4 #[33, 40, 47, 54, 61], 33) := by decide +kernel
theorem dX9_phrase_56 : decode cX9_phrase 56 = .ok (.aload_n 3, 1) := by decide +kernel
theorem dX9_phrase_57 : decode cX9_phrase 57 = .ok (.getfield 159, 3) := by decide +kernel
theorem dX9_phrase_60 : decode cX9_phrase 60 = .ok (.iload_n 1, 1) := by decide +kernel
theorem dX9_phrase_61 : decode cX9_phrase 61 = .ok (.iaload, 1) := by decide +kernel
theorem dX9_phrase_62 : decode cX9_phrase 62 = .ok (.ireturn, 1) := by decide +kernel
theorem dX9_phrase_63 : decode cX9_phrase 63 = .ok (.aload_n 3, 1) := by decide +kernel
theorem dX9_phrase_64 : decode cX9_phrase 64 = .ok (.getfield 162, 3) := by decide +kernel
theorem dX9_phrase_67 : decode cX9_phrase 67 = .ok (.iload_n 1, 1) := by decide +kernel
theorem dX9_phrase_68 : decode cX9_phrase 68 = .ok (.iaload, 1) := by decide +kernel
theorem dX9_phrase_69 : decode cX9_phrase 69 = .ok (.ireturn, 1) := by decide +kernel
theorem dX9_phrase_70 : decode cX9_phrase 70 = .ok (.aload_n 3, 1) := by decide +kernel
theorem dX9_phrase_71 : decode cX9_phrase 71 = .ok (.getfield 165, 3) := by decide +kernel
theorem dX9_phrase_74 : decode cX9_phrase 74 = .ok (.iload_n 1, 1) := by decide +kernel
theorem dX9_phrase_75 : decode cX9_phrase 75 = .ok (.iaload, 1) := by decide +kernel
theorem dX9_phrase_76 : decode cX9_phrase 76 = .ok (.ireturn, 1) := by decide +kernel
theorem dX9_phrase_77 : decode cX9_phrase 77 = .ok (.aload_n 3, 1) := by decide +kernel
theorem dX9_phrase_78 : decode cX9_phrase 78 = .ok (.getfield 168, 3) := by decide +kernel
theorem dX9_phrase_81 : decode cX9_phrase 81 = .ok (.iload_n 1, 1) := by decide +kernel
theorem dX9_phrase_82 : decode cX9_phrase 82 = .ok (.iaload, 1) := by decide +kernel
theorem dX9_phrase_83 : decode cX9_phrase 83 = .ok (.ireturn, 1) := by decide +kernel
theorem dX9_phrase_84 : decode cX9_phrase 84 = .ok (.aload_n 3, 1) := by decide +kernel
theorem dX9_phrase_85 : decode cX9_phrase 85 = .ok (.getfield 171, 3) := by decide +kernel
theorem dX9_phrase_88 : decode cX9_phrase 88 = .ok (.iconst 0, 1) := by decide +kernel
theorem dX9_phrase_89 : decode cX9_phrase 89 = .ok (.iaload, 1) := by decide +kernel
theorem dX9_phrase_90 : decode cX9_phrase 90 = .ok (.ireturn, 1) := by decide +kernel
theorem dX9_phrase_91 : decode cX9_phrase 91 = .ok (.iconst (-1), 1) := by decide +kernel
theorem dX9_phrase_92 : decode cX9_phrase 92 = .ok (.ireturn, 1) := by decide +kernel
theorem dX9_shape_0 : decode cX9_shape 0 = .ok (.aload_n 0, 1) := by decide +kernel
theorem dX9_shape_1 : decode cX9_shape 1 = .ok (.invokevirtual 146, 3) := by decide +kernel
theorem dX9_shape_4 : decode cX9_shape 4 = .ok (.astore_n 3, 1) := by decide +kernel
theorem dX9_shape_5 : decode cX9_shape 5 = .ok (.iload_n 1, 1) := by decide +kernel
theorem dX9_shape_6 : decode cX9_shape 6 = .ok (.ifCond .lt 11, 3) := by decide +kernel
theorem dX9_shape_9 : decode cX9_shape 9 = .ok (.iload_n 1, 1) := by decide +kernel
theorem dX9_shape_10 : decode cX9_shape 10 = .ok (.aload_n 3, 1) := by decide +kernel
theorem dX9_shape_11 : decode cX9_shape 11 = .ok (.getfield 174, 3) := by decide +kernel
theorem dX9_shape_14 : decode cX9_shape 14 = .ok (.if_icmp .lt 13, 3) := by decide +kernel
theorem dX9_shape_17 : decode cX9_shape 17 = .ok (.new 175, 3) := by decide +kernel
theorem dX9_shape_20 : decode cX9_shape 20 = .ok (.dup, 1) := by decide +kernel
theorem dX9_shape_21 : decode cX9_shape 21 = .ok (.ldc 177, 2) := by decide +kernel
theorem dX9_shape_23 : decode cX9_shape 23 = .ok (.invokespecial 179, 3) := by decide +kernel
theorem dX9_shape_26 : decode cX9_shape 26 = .ok (.athrow, 1) := by decide +kernel
theorem dX9_shape_27 : decode cX9_shape 27 = .ok (.iload_n 2, 1) := by decide +kernel
theorem dX9_shape_28 : decode cX9_shape 28 = .ok (.tableswitch 97 0 5 #[40, 50, 59, 68, 78, 88], 40) := by decide +kernel
theorem dX9_shape_68 : decode cX9_shape 68 = .ok (.aload_n 3, 1) := by decide +kernel
theorem dX9_shape_69 : decode cX9_shape 69 = .ok (.getfield 182, 3) := by decide +kernel
theorem dX9_shape_72 : decode cX9_shape 72 = .ok (.bipush 13, 2) := by decide +kernel
theorem dX9_shape_74 : decode cX9_shape 74 = .ok (.aaload, 1) := by decide +kernel
theorem dX9_shape_75 : decode cX9_shape 75 = .ok (.iload_n 1, 1) := by decide +kernel
theorem dX9_shape_76 : decode cX9_shape 76 = .ok (.iaload, 1) := by decide +kernel
theorem dX9_shape_77 : decode cX9_shape 77 = .ok (.ireturn, 1) := by decide +kernel
theorem dX9_shape_78 : decode cX9_shape 78 = .ok (.aload_n 3, 1) := by decide +kernel
theorem dX9_shape_79 : decode cX9_shape 79 = .ok (.getfield 182, 3) := by decide +kernel
theorem dX9_shape_82 : decode cX9_shape 82 = .ok (.iconst 1, 1) := by decide +kernel
theorem dX9_shape_83 : decode cX9_shape 83 = .ok (.aaload, 1) := by decide +kernel
theorem dX9_shape_84 : decode cX9_shape 84 = .ok (.iload_n 1, 1) := by decide +kernel
theorem dX9_shape_85 : decode cX9_shape 85 = .ok (.iaload, 1) := by decide +kernel
theorem dX9_shape_86 : decode cX9_shape 86 = .ok (.ireturn, 1) := by decide +kernel
theorem dX9_shape_87 : decode cX9_shape 87 = .ok (.aload_n 3, 1) := by decide +kernel
theorem dX9_shape_88 : decode cX9_shape 88 = .ok (.getfield 182, 3) := by decide +kernel
theorem dX9_shape_91 : decode cX9_shape 91 = .ok (.iconst 2, 1) := by decide +kernel
theorem dX9_shape_92 : decode cX9_shape 92 = .ok (.aaload, 1) := by decide +kernel
theorem dX9_shape_93 : decode cX9_shape 93 = .ok (.iload_n 1, 1) := by decide +kernel
theorem dX9_shape_94 : decode cX9_shape 94 = .ok (.iaload, 1) := by decide +kernel
theorem dX9_shape_95 : decode cX9_shape 95 = .ok (.ireturn, 1) := by decide +kernel
theorem dX9_shape_96 : decode cX9_shape 96 = .ok (.aload_n 3, 1) := by decide +kernel
theorem dX9_shape_97 : decode cX9_shape 97 = .ok (.getfield 182, 3) := by decide +kernel
theorem dX9_shape_100 : decode cX9_shape 100 = .ok (.bipush 11, 2) := by decide +kernel
theorem dX9_shape_102 : decode cX9_shape 102 = .ok (.aaload, 1) := by decide +kernel
theorem dX9_shape_103 : decode cX9_shape 103 = .ok (.iload_n 1, 1) := by decide +kernel
theorem dX9_shape_104 : decode cX9_shape 104 = .ok (.iaload, 1) := by decide +kernel
theorem dX9_shape_105 : decode cX9_shape 105 = .ok (.ireturn, 1) := by decide +kernel
theorem dX9_shape_106 : decode cX9_shape 106 = .ok (.aload_n 3, 1) := by decide +kernel
theorem dX9_shape_107 : decode cX9_shape 107 = .ok (.getfield 182, 3) := by decide +kernel
theorem dX9_shape_110 : decode cX9_shape 110 = .ok (.bipush 9, 2) := by decide +kernel
theorem dX9_shape_112 : decode cX9_shape 112 = .ok (.aaload, 1) := by decide +kernel
theorem dX9_shape_113 : decode cX9_shape 113 = .ok (.iload_n 1, 1) := by decide +kernel
theorem dX9_shape_114 : decode cX9_shape 114 = .ok (.iaload, 1) := by decide +kernel
theorem dX9_shape_115 : decode cX9_shape 115 = .ok (.ireturn, 1) := by decide +kernel
theorem dX9_shape_116 : decode cX9_shape 116 = .ok (.aload_n 3, 1) := by decide +kernel
theorem dX9_shape_117 : decode cX9_shape 117 = .ok (.getfield 182, 3) := by decide +kernel
theorem dX9_shape_120 : decode cX9_shape 120 = .ok (.iconst 0, 1) := by decide +kernel
theorem dX9_shape_121 : decode cX9_shape 121 = .ok (.aaload, 1) := by decide +kernel
