theorem dX12_ahead_0 : decode cX12_ahead 0 = .ok (.aload_n 0, 1) := by decide +kernel
theorem dX12_ahead_1 : decode cX12_ahead 1 = .ok (.getfield 26, 3) := by decide +kernel
theorem dX12_ahead_4 : decode cX12_ahead 4 = .ok (.istore_n 1, 1) := by decide +kernel
theorem dX12_ahead_5 : decode cX12_ahead 5 = .ok (.iload_n 1, 1) := by decide +kernel
theorem dX12_ahead_6 : decode cX12_ahead 6 = .ok (.aload_n 0, 1) := by decide +kernel
theorem dX12_ahead_7 : decode cX12_ahead 7 = .ok (.getfield 17, 3) := by decide +kernel
theorem dX12_ahead_10 : decode cX12_ahead 10 = .ok (.if_icmp .ge 31, 3) := by decide +kernel
theorem dX12_ahead_13 : decode cX12_ahead 13 = .ok (.aload_n 0, 1) := by decide +kernel
theorem dX12_ahead_14 : decode cX12_ahead 14 = .ok (.getfield 7, 3) := by decide +kernel
theorem dX12_ahead_17 : decode cX12_ahead 17 = .ok (.iload_n 1, 1) := by decide +kernel
theorem dX12_ahead_18 : decode cX12_ahead 18 = .ok (.iaload, 1) := by decide +kernel
theorem dX12_ahead_19 : decode cX12_ahead 19 = .ok (.bipush 32, 2) := by decide +kernel
theorem dX12_ahead_21 : decode cX12_ahead 21 = .ok (.if_icmp .eq 14, 3) := by decide +kernel
theorem dX12_ahead_24 : decode cX12_ahead 24 = .ok (.aload_n 0, 1) := by decide +kernel
theorem dX12_ahead_25 : decode cX12_ahead 25 = .ok (.getfield 7, 3) := by decide +kernel
theorem dX12_ahead_28 : decode cX12_ahead 28 = .ok (.iload_n 1, 1) := by decide +kernel
theorem dX12_ahead_29 : decode cX12_ahead 29 = .ok (.iaload, 1) := by decide +kernel
theorem dX12_ahead_30 : decode cX12_ahead 30 = .ok (.bipush 10, 2) := by decide +kernel
theorem dX12_ahead_32 : decode cX12_ahead 32 = .ok (.if_icmp .ne 9, 3) := by decide +kernel
theorem dX12_ahead_35 : decode cX12_ahead 35 = .ok (.iinc 1 1, 3) := by decide +kernel
theorem dX12_ahead_38 : decode cX12_ahead 38 = .ok (.goto (-33), 3) := by decide +kernel
theorem dX12_ahead_41 : decode cX12_ahead 41 = .ok (.aload_n 0, 1) := by decide +kernel
theorem dX12_ahead_42 : decode cX12_ahead 42 = .ok (.iload_n 1, 1) := by decide +kernel
theorem dX12_ahead_43 : decode cX12_ahead 43 = .ok (.putfield 23, 3) := by decide +kernel
theorem dX12_ahead_46 : decode cX12_ahead 46 = .ok (.aload_n 0, 1) := by decide +kernel
theorem dX12_ahead_47 : decode cX12_ahead 47 = .ok (.iload_n 1, 1) := by decide +kernel
theorem dX12_ahead_48 : decode cX12_ahead 48 = .ok (.putfield 26, 3) := by decide +kernel
theorem dX12_ahead_51 : decode cX12_ahead 51 = .ok (.aload_n 0, 1) := by decide +kernel
theorem dX12_ahead_52 : decode cX12_ahead 52 = .ok (.iconst 0, 1) := by decide +kernel
theorem dX12_ahead_53 : decode cX12_ahead 53 = .ok (.putfield 20, 3) := by decide +kernel
theorem dX12_ahead_56 : decode cX12_ahead 56 = .ok (.aload_n 0, 1) := by decide +kernel
theorem dX12_ahead_57 : decode cX12_ahead 57 = .ok (.iconst (-1), 1) := by decide +kernel
theorem dX12_ahead_58 : decode cX12_ahead 58 = .ok (.putfield 48, 3) := by decide +kernel
theorem dX12_ahead_61 : decode cX12_ahead 61 = .ok (.iload_n 1, 1) := by decide +kernel
theorem dX12_ahead_62 : decode cX12_ahead 62 = .ok (.aload_n 0, 1) := by decide +kernel
theorem dX12_ahead_63 : decode cX12_ahead 63 = .ok (.getfield 17, 3) := by decide +kernel
theorem dX12_ahead_66 : decode cX12_ahead 66 = .ok (.if_icmp .lt 4, 3) := by decide +kernel
theorem dX12_ahead_69 : decode cX12_ahead 69 = .ok (.return_, 1) := by decide +kernel
theorem dX12_ahead_70 : decode cX12_ahead 70 = .ok (.aload_n 0, 1) := by decide +kernel
theorem dX12_ahead_71 : decode cX12_ahead 71 = .ok (.getfield 7, 3) := by decide +kernel
theorem dX12_ahead_74 : decode cX12_ahead 74 = .ok (.iload_n 1, 1) := by decide +kernel
theorem dX12_ahead_75 : decode cX12_ahead 75 = .ok (.iaload, 1) := by decide +kernel
theorem dX12_ahead_76 : decode cX12_ahead 76 = .ok (.invokestatic 234, 3) := by decide +kernel
theorem dX12_ahead_79 : decode cX12_ahead 79 = .ok (.istore_n 2, 1) := by decide +kernel
theorem dX12_ahead_80 : decode cX12_ahead 80 = .ok (.aload_n 0, 1) := by decide +kernel
theorem dX12_ahead_81 : decode cX12_ahead 81 = .ok (.getfield 7, 3) := by decide +kernel
theorem dX12_ahead_84 : decode cX12_ahead 84 = .ok (.iload_n 1, 1) := by decide +kernel
theorem dX12_ahead_85 : decode cX12_ahead 85 = .ok (.iaload, 1) := by decide +kernel
theorem dX12_ahead_86 : decode cX12_ahead 86 = .ok (.invokestatic 238, 3) := by decide +kernel
theorem dX12_ahead_89 : decode cX12_ahead 89 = .ok (.istore_n 3, 1) := by decide +kernel
theorem dX12_ahead_90 : decode cX12_ahead 90 = .ok (.iload_n 2, 1) := by decide +kernel
theorem dX12_ahead_91 : decode cX12_ahead 91 = .ok (.ifCond .ne 7, 3) := by decide +kernel
theorem dX12_ahead_94 : decode cX12_ahead 94 = .ok (.iload_n 3, 1) := by decide +kernel
theorem dX12_ahead_95 : decode cX12_ahead 95 = .ok (.ifCond .eq 40, 3) := by decide +kernel
theorem dX12_ahead_98 : decode cX12_ahead 98 = .ok (.iload_n 1, 1) := by decide +kernel
theorem dX12_ahead_99 : decode cX12_ahead 99 = .ok (.ifCond .le 36, 3) := by decide +kernel
theorem dX12_ahead_102 : decode cX12_ahead 102 = .ok (.aload_n 0, 1) := by decide +kernel
theorem dX12_ahead_103 : decode cX12_ahead 103 = .ok (.getfield 7, 3) := by decide +kernel
theorem dX12_ahead_106 : decode cX12_ahead 106 = .ok (.iload_n 1, 1) := by decide +kernel
theorem dX12_ahead_107 : decode cX12_ahead 107 = .ok (.iconst 1, 1) := by decide +kernel
theorem dX12_ahead_108 : decode cX12_ahead 108 = .ok (.isub, 1) := by decide +kernel
theorem dX12_ahead_109 : decode cX12_ahead 109 = .ok (.iaload, 1) := by decide +kernel
theorem dX12_ahead_110 : decode cX12_ahead 110 = .ok (.invokestatic 234, 3) := by decide +kernel
theorem dX12_ahead_113 : decode cX12_ahead 113 = .ok (.ifCond .ne 17, 3) := by decide +kernel
theorem dX12_ahead_116 : decode cX12_ahead 116 = .ok (.aload_n 0, 1) := by decide +kernel
theorem dX12_ahead_117 : decode cX12_ahead 117 = .ok (.getfield 7, 3) := by decide +kernel
theorem dX12_ahead_120 : decode cX12_ahead 120 = .ok (.iload_n 1, 1) := by decide +kernel
theorem dX12_ahead_121 : decode cX12_ahead 121 = .ok (.iconst 1, 1) := by decide +kernel
theorem dX12_ahead_122 : decode cX12_ahead 122 = .ok (.isub, 1) := by decide +kernel
theorem dX12_ahead_123 : decode cX12_ahead 123 = .ok (.iaload, 1) := by decide +kernel
theorem dX12_ahead_124 : decode cX12_ahead 124 = .ok (.invokestatic 238, 3) := by decide +kernel
theorem dX12_ahead_127 : decode cX12_ahead 127 = .ok (.ifCond .eq 8, 3) := by decide +kernel
theorem dX12_ahead_130 : decode cX12_ahead 130 = .ok (.aload_n 0, 1) := by decide +kernel
theorem dX12_ahead_131 : decode cX12_ahead 131 = .ok (.iload_n 1, 1) := by decide +kernel
theorem dX12_ahead_132 : decode cX12_ahead 132 = .ok (.putfield 48, 3) := by decide +kernel
theorem dX12_ahead_135 : decode cX12_ahead 135 = .ok (.aload_n 0, 1) := by decide +kernel
theorem dX12_ahead_136 : decode cX12_ahead 136 = .ok (.iconst 0, 1) := by decide +kernel
theorem dX12_ahead_137 : decode cX12_ahead 137 = .ok (.putfield 29, 3) := by decide +kernel
theorem dX12_ahead_140 : decode cX12_ahead 140 = .ok (.aload_n 0, 1) := by decide +kernel
theorem dX12_ahead_141 : decode cX12_ahead 141 = .ok (.lconst 0, 1) := by decide +kernel
theorem dX12_ahead_142 : decode cX12_ahead 142 = .ok (.putfield 32, 3) := by decide +kernel
theorem dX12_ahead_145 : decode cX12_ahead 145 = .ok (.aload_n 0, 1) := by decide +kernel
theorem dX12_ahead_146 : decode cX12_ahead 146 = .ok (.iconst 3, 1) := by decide +kernel
theorem dX12_ahead_147 : decode cX12_ahead 147 = .ok (.putfield 20, 3) := by decide +kernel
theorem dX12_ahead_150 : decode cX12_ahead 150 = .ok (.aload_n 0, 1) := by decide +kernel
theorem dX12_ahead_151 : decode cX12_ahead 151 = .ok (.iload_n 1, 1) := by decide +kernel
theorem dX12_ahead_152 : decode cX12_ahead 152 = .ok (.iconst 1, 1) := by decide +kernel
theorem dX12_ahead_153 : decode cX12_ahead 153 = .ok (.iadd, 1) := by decide +kernel
theorem dX12_ahead_154 : decode cX12_ahead 154 = .ok (.putfield 26, 3) := by decide +kernel
theorem dX12_ahead_157 : decode cX12_ahead 157 = .ok (.iload_n 2, 1) := by decide +kernel
theorem dX12_ahead_158 : decode cX12_ahead 158 = .ok (.ifCond .ne 18, 3) := by decide +kernel
theorem dX12_ahead_161 : decode cX12_ahead 161 = .ok (.iload_n 3, 1) := by decide +kernel
theorem dX12_ahead_162 : decode cX12_ahead 162 = .ok (.ifCond .ne 14, 3) := by decide +kernel
theorem dX12_ahead_165 : decode cX12_ahead 165 = .ok (.aload_n 0, 1) := by decide +kernel
theorem dX12_ahead_166 : decode cX12_ahead 166 = .ok (.aload_n 0, 1) := by decide +kernel
theorem dX12_ahead_167 : decode cX12_ahead 167 = .ok (.getfield 7, 3) := by decide +kernel
theorem dX12_ahead_170 : decode cX12_ahead 170 = .ok (.iload_n 1, 1) := by decide +kernel
theorem dX12_ahead_171 : decode cX12_ahead 171 = .ok (.iaload, 1) := by decide +kernel
theorem dX12_ahead_172 : decode cX12_ahead 172 = .ok (.putfield 29, 3) := by decide +kernel
theorem dX12_ahead_175 : decode cX12_ahead 175 = .ok (.return_, 1) := by decide +kernel
theorem dX12_ahead_176 : decode cX12_ahead 176 = .ok (.aload_n 0, 1) := by decide +kernel
theorem dX12_ahead_177 : decode cX12_ahead 177 = .ok (.iload_n 2, 1) := by decide +kernel
theorem dX12_ahead_178 : decode cX12_ahead 178 = .ok (.ifCond .eq 7, 3) := by decide +kernel
theorem dX12_ahead_181 : decode cX12_ahead 181 = .ok (.iconst 1, 1) := by decide +kernel
theorem dX12_ahead_182 : decode cX12_ahead 182 = .ok (.goto 4, 3) := by decide +kernel
theorem dX12_ahead_185 : decode cX12_ahead 185 = .ok (.iconst 2, 1) := by decide +kernel
theorem dX12_ahead_186 : decode cX12_ahead 186 = .ok (.putfield 20, 3) := by decide +kernel
theorem dX12_ahead_189 : decode cX12_ahead 189 = .ok (.iload_n 2, 1) := by decide +kernel
theorem dX12_ahead_190 : decode cX12_ahead 190 = .ok (.ifCond .eq 8, 3) := by decide +kernel
theorem dX12_ahead_193 : decode cX12_ahead 193 = .ok (.bipush 6, 2) := by decide +kernel
theorem dX12_ahead_195 : decode cX12_ahead 195 = .ok (.goto 4, 3) := by decide +kernel
theorem dX12_ahead_198 : decode cX12_ahead 198 = .ok (.iconst 4, 1) := by decide +kernel
theorem dX12_ahead_199 : decode cX12_ahead 199 = .ok (.istore 4, 2) := by decide +kernel
theorem dX12_ahead_201 : decode cX12_ahead 201 = .ok (.iconst 0, 1) := by decide +kernel
theorem dX12_ahead_202 : decode cX12_ahead 202 = .ok (.istore 5, 2) := by decide +kernel
theorem dX12_ahead_204 : decode cX12_ahead 204 = .ok (.iload_n 1, 1) := by decide +kernel
theorem dX12_ahead_205 : decode cX12_ahead 205 = .ok (.aload_n 0, 1) := by decide +kernel
theorem dX12_ahead_206 : decode cX12_ahead 206 = .ok (.getfield 17, 3) := by decide +kernel
theorem dX12_ahead_209 : decode cX12_ahead 209 = .ok (.if_icmp .ge 125, 3) := by decide +kernel
theorem dX12_ahead_212 : decode cX12_ahead 212 = .ok (.iload_n 2, 1) := by decide +kernel
theorem dX12_ahead_213 : decode cX12_ahead 213 = .ok (.ifCond .eq 18, 3) := by decide +kernel
theorem dX12_ahead_216 : decode cX12_ahead 216 = .ok (.aload_n 0, 1) := by decide +kernel
theorem dX12_ahead_217 : decode cX12_ahead 217 = .ok (.getfield 7, 3) := by decide +kernel
theorem dX12_ahead_220 : decode cX12_ahead 220 = .ok (.iload_n 1, 1) := by decide +kernel
theorem dX12_ahead_221 : decode cX12_ahead 221 = .ok (.iaload, 1) := by decide +kernel
theorem dX12_ahead_222 : decode cX12_ahead 222 = .ok (.invokestatic 234, 3) := by decide +kernel
theorem dX12_ahead_225 : decode cX12_ahead 225 = .ok (.ifCond .eq 109, 3) := by decide +kernel
theorem dX12_ahead_228 : decode cX12_ahead 228 = .ok (.goto 15, 3) := by decide +kernel
theorem dX12_ahead_231 : decode cX12_ahead 231 = .ok (.aload_n 0, 1) := by decide +kernel
theorem dX12_ahead_232 : decode cX12_ahead 232 = .ok (.getfield 7, 3) := by decide +kernel
theorem dX12_ahead_235 : decode cX12_ahead 235 = .ok (.iload_n 1, 1) := by decide +kernel
theorem dX12_ahead_236 : decode cX12_ahead 236 = .ok (.iaload, 1) := by decide +kernel
theorem dX12_ahead_237 : decode cX12_ahead 237 = .ok (.invokestatic 238, 3) := by decide +kernel
theorem dX12_ahead_240 : decode cX12_ahead 240 = .ok (.ifCond .eq 94, 3) := by decide +kernel
theorem dX12_ahead_243 : decode cX12_ahead 243 = .ok (.iload 5, 2) := by decide +kernel
theorem dX12_ahead_245 : decode cX12_ahead 245 = .ok (.iload 4, 2) := by decide +kernel
theorem dX12_ahead_247 : decode cX12_ahead 247 = .ok (.if_icmp .ne 16, 3) := by decide +kernel
theorem dX12_ahead_250 : decode cX12_ahead 250 = .ok (.aload_n 0, 1) := by decide +kernel
theorem dX12_ahead_251 : decode cX12_ahead 251 = .ok (.getfield 48, 3) := by decide +kernel
theorem dX12_ahead_254 : decode cX12_ahead 254 = .ok (.iconst (-1), 1) := by decide +kernel
theorem dX12_ahead_255 : decode cX12_ahead 255 = .ok (.if_icmp .ne 8, 3) := by decide +kernel
theorem dX12_ahead_258 : decode cX12_ahead 258 = .ok (.aload_n 0, 1) := by decide +kernel
theorem dX12_ahead_259 : decode cX12_ahead 259 = .ok (.iload_n 1, 1) := by decide +kernel
theorem dX12_ahead_260 : decode cX12_ahead 260 = .ok (.putfield 48, 3) := by decide +kernel
theorem dX12_ahead_263 : decode cX12_ahead 263 = .ok (.iload 5, 2) := by decide +kernel
theorem dX12_ahead_265 : decode cX12_ahead 265 = .ok (.iload 4, 2) := by decide +kernel
theorem dX12_ahead_267 : decode cX12_ahead 267 = .ok (.if_icmp .ge 26, 3) := by decide +kernel
theorem dX12_ahead_270 : decode cX12_ahead 270 = .ok (.iload_n 2, 1) := by decide +kernel
theorem dX12_ahead_271 : decode cX12_ahead 271 = .ok (.ifCond .eq 22, 3) := by decide +kernel
theorem dX12_ahead_274 : decode cX12_ahead 274 = .ok (.aload_n 0, 1) := by decide +kernel
theorem dX12_ahead_275 : decode cX12_ahead 275 = .ok (.aload_n 0, 1) := by decide +kernel
theorem dX12_ahead_276 : decode cX12_ahead 276 = .ok (.getfield 32, 3) := by decide +kernel
theorem dX12_ahead_279 : decode cX12_ahead 279 = .ok (.bipush 8, 2) := by decide +kernel
theorem dX12_ahead_281 : decode cX12_ahead 281 = .ok (.lshl, 1) := by decide +kernel
theorem dX12_ahead_282 : decode cX12_ahead 282 = .ok (.aload_n 0, 1) := by decide +kernel
theorem dX12_ahead_283 : decode cX12_ahead 283 = .ok (.getfield 7, 3) := by decide +kernel
theorem dX12_ahead_286 : decode cX12_ahead 286 = .ok (.iload_n 1, 1) := by decide +kernel
theorem dX12_ahead_287 : decode cX12_ahead 287 = .ok (.iaload, 1) := by decide +kernel
theorem dX12_ahead_288 : decode cX12_ahead 288 = .ok (.i2l, 1) := by decide +kernel
theorem dX12_ahead_289 : decode cX12_ahead 289 = .ok (.lor, 1) := by decide +kernel
theorem dX12_ahead_290 : decode cX12_ahead 290 = .ok (.putfield 32, 3) := by decide +kernel
theorem dX12_ahead_293 : decode cX12_ahead 293 = .ok (.iload 5, 2) := by decide +kernel
theorem dX12_ahead_295 : decode cX12_ahead 295 = .ok (.iload 4, 2) := by decide +kernel
theorem dX12_ahead_297 : decode cX12_ahead 297 = .ok (.if_icmp .ge 28, 3) := by decide +kernel
theorem dX12_ahead_300 : decode cX12_ahead 300 = .ok (.iload_n 3, 1) := by decide +kernel
theorem dX12_ahead_301 : decode cX12_ahead 301 = .ok (.ifCond .eq 24, 3) := by decide +kernel
theorem dX12_ahead_304 : decode cX12_ahead 304 = .ok (.aload_n 0, 1) := by decide +kernel
theorem dX12_ahead_305 : decode cX12_ahead 305 = .ok (.bipush 10, 2) := by decide +kernel
theorem dX12_ahead_307 : decode cX12_ahead 307 = .ok (.aload_n 0, 1) := by decide +kernel
theorem dX12_ahead_308 : decode cX12_ahead 308 = .ok (.getfield 29, 3) := by decide +kernel
theorem dX12_ahead_311 : decode cX12_ahead 311 = .ok (.imul, 1) := by decide +kernel
theorem dX12_ahead_312 : decode cX12_ahead 312 = .ok (.aload_n 0, 1) := by decide +kernel
theorem dX12_ahead_313 : decode cX12_ahead 313 = .ok (.getfield 7, 3) := by decide +kernel
theorem dX12_ahead_316 : decode cX12_ahead 316 = .ok (.iload_n 1, 1) := by decide +kernel
theorem dX12_ahead_317 : decode cX12_ahead 317 = .ok (.iaload, 1) := by decide +kernel
theorem dX12_ahead_318 : decode cX12_ahead 318 = .ok (.iadd, 1) := by decide +kernel
theorem dX12_ahead_319 : decode cX12_ahead 319 = .ok (.bipush 48, 2) := by decide +kernel
theorem dX12_ahead_321 : decode cX12_ahead 321 = .ok (.isub, 1) := by decide +kernel
theorem dX12_ahead_322 : decode cX12_ahead 322 = .ok (.putfield 29, 3) := by decide +kernel
theorem dX12_ahead_325 : decode cX12_ahead 325 = .ok (.iinc 5 1, 3) := by decide +kernel
theorem dX12_ahead_328 : decode cX12_ahead 328 = .ok (.iinc 1 1, 3) := by decide +kernel
theorem dX12_ahead_331 : decode cX12_ahead 331 = .ok (.goto (-127), 3) := by decide +kernel
theorem dX12_ahead_334 : decode cX12_ahead 334 = .ok (.aload_n 0, 1) := by decide +kernel
theorem dX12_ahead_335 : decode cX12_ahead 335 = .ok (.iload_n 1, 1) := by decide +kernel
theorem dX12_ahead_336 : decode cX12_ahead 336 = .ok (.putfield 26, 3) := by decide +kernel
theorem dX12_ahead_339 : decode cX12_ahead 339 = .ok (.return_, 1) := by decide +kernel
theorem dX12_isSign_0 : decode cX12_isSign 0 = .ok (.aload_n 0, 1) := by decide +kernel
theorem dX12_isSign_1 : decode cX12_isSign 1 = .ok (.getfield 20, 3) := by decide +kernel
theorem dX12_isSign_4 : decode cX12_isSign 4 = .ok (.iconst 3, 1) := by decide +kernel
theorem dX12_isSign_5 : decode cX12_isSign 5 = .ok (.if_icmp .ne 15, 3) := by decide +kernel
theorem dX12_isSign_8 : decode cX12_isSign 8 = .ok (.aload_n 0, 1) := by decide +kernel
theorem dX12_isSign_9 : decode cX12_isSign 9 = .ok (.getfield 29, 3) := by decide +kernel
theorem dX12_isSign_12 : decode cX12_isSign 12 = .ok (.iload_n 1, 1) := by decide +kernel
theorem dX12_isSign_13 : decode cX12_isSign 13 = .ok (.if_icmp .ne 7, 3) := by decide +kernel
theorem dX12_isSign_16 : decode cX12_isSign 16 = .ok (.iconst 1, 1) := by decide +kernel
theorem dX12_isSign_17 : decode cX12_isSign 17 = .ok (.goto 4, 3) := by decide +kernel
theorem dX12_isSign_20 : decode cX12_isSign 20 = .ok (.iconst 0, 1) := by decide +kernel
theorem dX12_isSign_21 : decode cX12_isSign 21 = .ok (.ireturn, 1) := by decide +kernel
theorem dX12_isWord_0 : decode cX12_isWord 0 = .ok (.aload_n 0, 1) := by decide +kernel
theorem dX12_isWord_1 : decode cX12_isWord 1 = .ok (.getfield 20, 3) := by decide +kernel
theorem dX12_isWord_4 : decode cX12_isWord 4 = .ok (.iconst 1, 1) := by decide +kernel
theorem dX12_isWord_5 : decode cX12_isWord 5 = .ok (.if_icmp .ne 16, 3) := by decide +kernel
theorem dX12_isWord_8 : decode cX12_isWord 8 = .ok (.aload_n 0, 1) := by decide +kernel
theorem dX12_isWord_9 : decode cX12_isWord 9 = .ok (.getfield 32, 3) := by decide +kernel
theorem dX12_isWord_12 : decode cX12_isWord 12 = .ok (.lload_n 1, 1) := by decide +kernel
theorem dX12_isWord_13 : decode cX12_isWord 13 = .ok (.lcmp, 1) := by decide +kernel
theorem dX12_isWord_14 : decode cX12_isWord 14 = .ok (.ifCond .ne 7, 3) := by decide +kernel
theorem dX12_isWord_17 : decode cX12_isWord 17 = .ok (.iconst 1, 1) := by decide +kernel
theorem dX12_isWord_18 : decode cX12_isWord 18 = .ok (.goto 4, 3) := by decide +kernel
theorem dX12_isWord_21 : decode cX12_isWord 21 = .ok (.iconst 0, 1) := by decide +kernel
theorem dX12_isWord_22 : decode cX12_isWord 22 = .ok (.ireturn, 1) := by decide +kernel
theorem dX12_must_0 : decode cX12_must 0 = .ok (.aload_n 0, 1) := by decide +kernel
theorem dX12_must_1 : decode cX12_must 1 = .ok (.invokevirtual 241, 3) := by decide +kernel
theorem dX12_must_4 : decode cX12_must 4 = .ok (.aload_n 0, 1) := by decide +kernel
theorem dX12_must_5 : decode cX12_must 5 = .ok (.iload_n 1, 1) := by decide +kernel
theorem dX12_must_6 : decode cX12_must 6 = .ok (.invokevirtual 244, 3) := by decide +kernel
theorem dX12_must_9 : decode cX12_must 9 = .ok (.ifCond .ne 12, 3) := by decide +kernel
theorem dX12_must_12 : decode cX12_must 12 = .ok (.aload_n 0, 1) := by decide +kernel
theorem dX12_must_13 : decode cX12_must 13 = .ok (.iconst 1, 1) := by decide +kernel
theorem dX12_must_14 : decode cX12_must 14 = .ok (.aload_n 0, 1) := by decide +kernel
theorem dX12_must_15 : decode cX12_must 15 = .ok (.getfield 23, 3) := by decide +kernel
theorem dX12_must_18 : decode cX12_must 18 = .ok (.invokevirtual 230, 3) := by decide +kernel
theorem dX12_must_21 : decode cX12_must 21 = .ok (.aload_n 0, 1) := by decide +kernel
theorem dX12_must_22 : decode cX12_must 22 = .ok (.getfield 36, 3) := by decide +kernel
theorem dX12_must_25 : decode cX12_must 25 = .ok (.ifCond .ne 7, 3) := by decide +kernel
theorem dX12_must_28 : decode cX12_must 28 = .ok (.aload_n 0, 1) := by decide +kernel
theorem dX12_must_29 : decode cX12_must 29 = .ok (.invokevirtual 247, 3) := by decide +kernel
theorem dX12_must_32 : decode cX12_must 32 = .ok (.return_, 1) := by decide +kernel
theorem dX12_isOwn_0 : decode cX12_isOwn 0 = .ok (.lload_n 1, 1) := by decide +kernel
theorem dX12_isOwn_1 : decode cX12_isOwn 1 = .ok (.ldc2_w 250, 3) := by decide +kernel
theorem dX12_isOwn_4 : decode cX12_isOwn 4 = .ok (.lcmp, 1) := by decide +kernel
theorem dX12_isOwn_5 : decode cX12_isOwn 5 = .ok (.ifCond .eq 35, 3) := by decide +kernel
theorem dX12_isOwn_8 : decode cX12_isOwn 8 = .ok (.lload_n 1, 1) := by decide +kernel
theorem dX12_isOwn_9 : decode cX12_isOwn 9 = .ok (.ldc2_w 252, 3) := by decide +kernel
theorem dX12_isOwn_12 : decode cX12_isOwn 12 = .ok (.lcmp, 1) := by decide +kernel
theorem dX12_isOwn_13 : decode cX12_isOwn 13 = .ok (.ifCond .eq 27, 3) := by decide +kernel
theorem dX12_isOwn_16 : decode cX12_isOwn 16 = .ok (.lload_n 1, 1) := by decide +kernel
theorem dX12_isOwn_17 : decode cX12_isOwn 17 = .ok (.ldc2_w 254, 3) := by decide +kernel
theorem dX12_isOwn_20 : decode cX12_isOwn 20 = .ok (.lcmp, 1) := by decide +kernel
theorem dX12_isOwn_21 : decode cX12_isOwn 21 = .ok (.ifCond .eq 19, 3) := by decide +kernel
theorem dX12_isOwn_24 : decode cX12_isOwn 24 = .ok (.lload_n 1, 1) := by decide +kernel
theorem dX12_isOwn_25 : decode cX12_isOwn 25 = .ok (.ldc2_w 256, 3) := by decide +kernel
theorem dX12_isOwn_28 : decode cX12_isOwn 28 = .ok (.lcmp, 1) := by decide +kernel
theorem dX12_isOwn_29 : decode cX12_isOwn 29 = .ok (.ifCond .eq 11, 3) := by decide +kernel
theorem dX12_isOwn_32 : decode cX12_isOwn 32 = .ok (.lload_n 1, 1) := by decide +kernel
theorem dX12_isOwn_33 : decode cX12_isOwn 33 = .ok (.ldc2_w 258, 3) := by decide +kernel
theorem dX12_isOwn_36 : decode cX12_isOwn 36 = .ok (.lcmp, 1) := by decide +kernel
theorem dX12_isOwn_37 : decode cX12_isOwn 37 = .ok (.ifCond .ne 5, 3) := by decide +kernel
theorem dX12_isOwn_40 : decode cX12_isOwn 40 = .ok (.iconst 1, 1) := by decide +kernel
theorem dX12_isOwn_41 : decode cX12_isOwn 41 = .ok (.ireturn, 1) := by decide +kernel
theorem dX12_isOwn_42 : decode cX12_isOwn 42 = .ok (.lload_n 1, 1) := by decide +kernel
theorem dX12_isOwn_43 : decode cX12_isOwn 43 = .ok (.ldc2_w 260, 3) := by decide +kernel
theorem dX12_isOwn_46 : decode cX12_isOwn 46 = .ok (.lcmp, 1) := by decide +kernel
theorem dX12_isOwn_47 : decode cX12_isOwn 47 = .ok (.ifCond .eq 35, 3) := by decide +kernel
theorem dX12_isOwn_50 : decode cX12_isOwn 50 = .ok (.lload_n 1, 1) := by decide +kernel
theorem dX12_isOwn_51 : decode cX12_isOwn 51 = .ok (.ldc2_w 262, 3) := by decide +kernel
theorem dX12_isOwn_54 : decode cX12_isOwn 54 = .ok (.lcmp, 1) := by decide +kernel
theorem dX12_isOwn_55 : decode cX12_isOwn 55 = .ok (.ifCond .eq 27, 3) := by decide +kernel
theorem dX12_isOwn_58 : decode cX12_isOwn 58 = .ok (.lload_n 1, 1) := by decide +kernel
theorem dX12_isOwn_59 : decode cX12_isOwn 59 = .ok (.ldc2_w 264, 3) := by decide +kernel
theorem dX12_isOwn_62 : decode cX12_isOwn 62 = .ok (.lcmp, 1) := by decide +kernel
theorem dX12_isOwn_63 : decode cX12_isOwn 63 = .ok (.ifCond .eq 19, 3) := by decide +kernel
theorem dX12_isOwn_66 : decode cX12_isOwn 66 = .ok (.lload_n 1, 1) := by decide +kernel
theorem dX12_isOwn_67 : decode cX12_isOwn 67 = .ok (.ldc2_w 266, 3) := by decide +kernel
theorem dX12_isOwn_70 : decode cX12_isOwn 70 = .ok (.lcmp, 1) := by decide +kernel
theorem dX12_isOwn_71 : decode cX12_isOwn 71 = .ok (.ifCond .eq 11, 3) := by decide +kernel
theorem dX12_isOwn_74 : decode cX12_isOwn 74 = .ok (.lload_n 1, 1) := by decide +kernel
theorem dX12_isOwn_75 : decode cX12_isOwn 75 = .ok (.ldc2_w 268, 3) := by decide +kernel
theorem dX12_isOwn_78 : decode cX12_isOwn 78 = .ok (.lcmp, 1) := by decide +kernel
theorem dX12_isOwn_79 : decode cX12_isOwn 79 = .ok (.ifCond .ne 5, 3) := by decide +kernel
theorem dX12_isOwn_82 : decode cX12_isOwn 82 = .ok (.iconst 1, 1) := by decide +kernel
theorem dX12_isOwn_83 : decode cX12_isOwn 83 = .ok (.ireturn, 1) := by decide +kernel
theorem dX12_isOwn_84 : decode cX12_isOwn 84 = .ok (.lload_n 1, 1) := by decide +kernel
theorem dX12_isOwn_85 : decode cX12_isOwn 85 = .ok (.ldc2_w 270, 3) := by decide +kernel
theorem dX12_isOwn_88 : decode cX12_isOwn 88 = .ok (.lcmp, 1) := by decide +kernel
theorem dX12_isOwn_89 : decode cX12_isOwn 89 = .ok (.ifCond .eq 35, 3) := by decide +kernel
theorem dX12_isOwn_92 : decode cX12_isOwn 92 = .ok (.lload_n 1, 1) := by decide +kernel
theorem dX12_isOwn_93 : decode cX12_isOwn 93 = .ok (.ldc2_w 272, 3) := by decide +kernel
theorem dX12_isOwn_96 : decode cX12_isOwn 96 = .ok (.lcmp, 1) := by decide +kernel
theorem dX12_isOwn_97 : decode cX12_isOwn 97 = .ok (.ifCond .eq 27, 3) := by decide +kernel
theorem dX12_isOwn_100 : decode cX12_isOwn 100 = .ok (.lload_n 1, 1) := by decide +kernel
theorem dX12_isOwn_101 : decode cX12_isOwn 101 = .ok (.ldc2_w 274, 3) := by decide +kernel
theorem dX12_isOwn_104 : decode cX12_isOwn 104 = .ok (.lcmp, 1) := by decide +kernel
theorem dX12_isOwn_105 : decode cX12_isOwn 105 = .ok (.ifCond .eq 19, 3) := by decide +kernel
theorem dX12_isOwn_108 : decode cX12_isOwn 108 = .ok (.lload_n 1, 1) := by decide +kernel
theorem dX12_isOwn_109 : decode cX12_isOwn 109 = .ok (.ldc2_w 276, 3) := by decide +kernel
theorem dX12_isOwn_112 : decode cX12_isOwn 112 = .ok (.lcmp, 1) := by decide +kernel
theorem dX12_isOwn_113 : decode cX12_isOwn 113 = .ok (.ifCond .eq 11, 3) := by decide +kernel
theorem dX12_isOwn_116 : decode cX12_isOwn 116 = .ok (.lload_n 1, 1) := by decide +kernel
theorem dX12_isOwn_117 : decode cX12_isOwn 117 = .ok (.ldc2_w 278, 3) := by decide +kernel
theorem dX12_isOwn_120 : decode cX12_isOwn 120 = .ok (.lcmp, 1) := by decide +kernel
theorem dX12_isOwn_121 : decode cX12_isOwn 121 = .ok (.ifCond .ne 5, 3) := by decide +kernel
theorem dX12_isOwn_124 : decode cX12_isOwn 124 = .ok (.iconst 1, 1) := by decide +kernel
theorem dX12_isOwn_125 : decode cX12_isOwn 125 = .ok (.ireturn, 1) := by decide +kernel
theorem dX12_isOwn_126 : decode cX12_isOwn 126 = .ok (.lload_n 1, 1) := by decide +kernel
theorem dX12_isOwn_127 : decode cX12_isOwn 127 = .ok (.ldc2_w 280, 3) := by decide +kernel
theorem dX12_isOwn_130 : decode cX12_isOwn 130 = .ok (.lcmp, 1) := by decide +kernel
theorem dX12_isOwn_131 : decode cX12_isOwn 131 = .ok (.ifCond .eq 35, 3) := by decide +kernel
theorem dX12_isOwn_134 : decode cX12_isOwn 134 = .ok (.lload_n 1, 1) := by decide +kernel
theorem dX12_isOwn_135 : decode cX12_isOwn 135 = .ok (.ldc2_w 282, 3) := by decide +kernel
theorem dX12_isOwn_138 : decode cX12_isOwn 138 = .ok (.lcmp, 1) := by decide +kernel
theorem dX12_isOwn_139 : decode cX12_isOwn 139 = .ok (.ifCond .eq 27, 3) := by decide +kernel
theorem dX12_isOwn_142 : decode cX12_isOwn 142 = .ok (.lload_n 1, 1) := by decide +kernel
theorem dX12_isOwn_143 : decode cX12_isOwn 143 = .ok (.ldc2_w 284, 3) := by decide +kernel
theorem dX12_isOwn_146 : decode cX12_isOwn 146 = .ok (.lcmp, 1) := by decide +kernel
theorem dX12_isOwn_147 : decode cX12_isOwn 147 = .ok (.ifCond .eq 19, 3) := by decide +kernel
theorem dX12_isOwn_150 : decode cX12_isOwn 150 = .ok (.lload_n 1, 1) := by decide +kernel
theorem dX12_isOwn_151 : decode cX12_isOwn 151 = .ok (.ldc2_w 286, 3) := by decide +kernel
theorem dX12_isOwn_154 : decode cX12_isOwn 154 = .ok (.lcmp, 1) := by decide +kernel
theorem dX12_isOwn_155 : decode cX12_isOwn 155 = .ok (.ifCond .eq 11, 3) := by decide +kernel
theorem dX12_isOwn_158 : decode cX12_isOwn 158 = .ok (.lload_n 1, 1) := by decide +kernel
theorem dX12_isOwn_159 : decode cX12_isOwn 159 = .ok (.ldc2_w 288, 3) := by decide +kernel
theorem dX12_isOwn_162 : decode cX12_isOwn 162 = .ok (.lcmp, 1) := by decide +kernel
theorem dX12_isOwn_163 : decode cX12_isOwn 163 = .ok (.ifCond .ne 5, 3) := by decide +kernel
theorem dX12_isOwn_166 : decode cX12_isOwn 166 = .ok (.iconst 1, 1) := by decide +kernel
theorem dX12_isOwn_167 : decode cX12_isOwn 167 = .ok (.ireturn, 1) := by decide +kernel
theorem dX12_isOwn_168 : decode cX12_isOwn 168 = .ok (.lload_n 1, 1) := by decide +kernel
theorem dX12_isOwn_169 : decode cX12_isOwn 169 = .ok (.ldc2_w 290, 3) := by decide +kernel
theorem dX12_isOwn_172 : decode cX12_isOwn 172 = .ok (.lcmp, 1) := by decide +kernel
theorem dX12_isOwn_173 : decode cX12_isOwn 173 = .ok (.ifCond .eq 35, 3) := by decide +kernel
theorem dX12_isOwn_176 : decode cX12_isOwn 176 = .ok (.lload_n 1, 1) := by decide +kernel
theorem dX12_isOwn_177 : decode cX12_isOwn 177 = .ok (.ldc2_w 292, 3) := by decide +kernel
theorem dX12_isOwn_180 : decode cX12_isOwn 180 = .ok (.lcmp, 1) := by decide +kernel
theorem dX12_isOwn_181 : decode cX12_isOwn 181 = .ok (.ifCond .eq 27, 3) := by decide +kernel
theorem dX12_isOwn_184 : decode cX12_isOwn 184 = .ok (.lload_n 1, 1) := by decide +kernel
theorem dX12_isOwn_185 : decode cX12_isOwn 185 = .ok (.ldc2_w 294, 3) := by decide +kernel
theorem dX12_isOwn_188 : decode cX12_isOwn 188 = .ok (.lcmp, 1) := by decide +kernel
theorem dX12_isOwn_189 : decode cX12_isOwn 189 = .ok (.ifCond .eq 19, 3) := by decide +kernel
theorem dX12_isOwn_192 : decode cX12_isOwn 192 = .ok (.lload_n 1, 1) := by decide +kernel
theorem dX12_isOwn_193 : decode cX12_isOwn 193 = .ok (.ldc2_w 296, 3) := by decide +kernel
theorem dX12_isOwn_196 : decode cX12_isOwn 196 = .ok (.lcmp, 1) := by decide +kernel
theorem dX12_isOwn_197 : decode cX12_isOwn 197 = .ok (.ifCond .eq 11, 3) := by decide +kernel
theorem dX12_isOwn_200 : decode cX12_isOwn 200 = .ok (.lload_n 1, 1) := by decide +kernel
theorem dX12_isOwn_201 : decode cX12_isOwn 201 = .ok (.ldc2_w 298, 3) := by decide +kernel
theorem dX12_isOwn_204 : decode cX12_isOwn 204 = .ok (.lcmp, 1) := by decide +kernel
theorem dX12_isOwn_205 : decode cX12_isOwn 205 = .ok (.ifCond .ne 5, 3) := by decide +kernel
theorem dX12_isOwn_208 : decode cX12_isOwn 208 = .ok (.iconst 1, 1) := by decide +kernel
theorem dX12_isOwn_209 : decode cX12_isOwn 209 = .ok (.ireturn, 1) := by decide +kernel
theorem dX12_isOwn_210 : decode cX12_isOwn 210 = .ok (.lload_n 1, 1) := by decide +kernel
theorem dX12_isOwn_211 : decode cX12_isOwn 211 = .ok (.ldc2_w 300, 3) := by decide +kernel
theorem dX12_isOwn_214 : decode cX12_isOwn 214 = .ok (.lcmp, 1) := by decide +kernel
theorem dX12_isOwn_215 : decode cX12_isOwn 215 = .ok (.ifCond .eq 19, 3) := by decide +kernel
theorem dX12_isOwn_218 : decode cX12_isOwn 218 = .ok (.lload_n 1, 1) := by decide +kernel
theorem dX12_isOwn_219 : decode cX12_isOwn 219 = .ok (.ldc2_w 302, 3) := by decide +kernel
theorem dX12_isOwn_222 : decode cX12_isOwn 222 = .ok (.lcmp, 1) := by decide +kernel
theorem dX12_isOwn_223 : decode cX12_isOwn 223 = .ok (.ifCond .eq 11, 3) := by decide +kernel
theorem dX12_isOwn_226 : decode cX12_isOwn 226 = .ok (.lload_n 1, 1) := by decide +kernel
theorem dX12_isOwn_227 : decode cX12_isOwn 227 = .ok (.ldc2_w 304, 3) := by decide +kernel
theorem dX12_isOwn_230 : decode cX12_isOwn 230 = .ok (.lcmp, 1) := by decide +kernel
theorem dX12_isOwn_231 : decode cX12_isOwn 231 = .ok (.ifCond .ne 5, 3) := by decide +kernel
theorem dX12_isOwn_234 : decode cX12_isOwn 234 = .ok (.iconst 1, 1) := by decide +kernel
theorem dX12_isOwn_235 : decode cX12_isOwn 235 = .ok (.ireturn, 1) := by decide +kernel
theorem dX12_isOwn_236 : decode cX12_isOwn 236 = .ok (.iconst 0, 1) := by decide +kernel
theorem dX12_isOwn_237 : decode cX12_isOwn 237 = .ok (.ireturn, 1) := by decide +kernel
theorem dX12_manyOf_0 : decode cX12_manyOf 0 = .ok (.iload_n 1, 1) := by decide +kernel
theorem dX12_manyOf_1 : decode cX12_manyOf 1 = .ok (.ifCond .ne 15, 3) := by decide +kernel
theorem dX12_manyOf_4 : decode cX12_manyOf 4 = .ok (.aload_n 0, 1) := by decide +kernel
theorem dX12_manyOf_5 : decode cX12_manyOf 5 = .ok (.getfield 54, 3) := by decide +kernel
theorem dX12_manyOf_8 : decode cX12_manyOf 8 = .ok (.aload_n 0, 1) := by decide +kernel
theorem dX12_manyOf_9 : decode cX12_manyOf 9 = .ok (.getfield 109, 3) := by decide +kernel
theorem dX12_manyOf_12 : decode cX12_manyOf 12 = .ok (.iaload, 1) := by decide +kernel
theorem dX12_manyOf_13 : decode cX12_manyOf 13 = .ok (.goto 29, 3) := by decide +kernel
theorem dX12_manyOf_16 : decode cX12_manyOf 16 = .ok (.iload_n 1, 1) := by decide +kernel
theorem dX12_manyOf_17 : decode cX12_manyOf 17 = .ok (.iconst 1, 1) := by decide +kernel
theorem dX12_manyOf_18 : decode cX12_manyOf 18 = .ok (.if_icmp .ne 15, 3) := by decide +kernel
theorem dX12_manyOf_21 : decode cX12_manyOf 21 = .ok (.aload_n 0, 1) := by decide +kernel
theorem dX12_manyOf_22 : decode cX12_manyOf 22 = .ok (.getfield 63, 3) := by decide +kernel
theorem dX12_manyOf_25 : decode cX12_manyOf 25 = .ok (.aload_n 0, 1) := by decide +kernel
theorem dX12_manyOf_26 : decode cX12_manyOf 26 = .ok (.getfield 109, 3) := by decide +kernel
theorem dX12_manyOf_29 : decode cX12_manyOf 29 = .ok (.iaload, 1) := by decide +kernel
theorem dX12_manyOf_30 : decode cX12_manyOf 30 = .ok (.goto 12, 3) := by decide +kernel
theorem dX12_manyOf_33 : decode cX12_manyOf 33 = .ok (.aload_n 0, 1) := by decide +kernel
theorem dX12_manyOf_34 : decode cX12_manyOf 34 = .ok (.getfield 72, 3) := by decide +kernel
theorem dX12_manyOf_37 : decode cX12_manyOf 37 = .ok (.aload_n 0, 1) := by decide +kernel
theorem dX12_manyOf_38 : decode cX12_manyOf 38 = .ok (.getfield 109, 3) := by decide +kernel
theorem dX12_manyOf_41 : decode cX12_manyOf 41 = .ok (.iaload, 1) := by decide +kernel
theorem dX12_manyOf_42 : decode cX12_manyOf 42 = .ok (.ireturn, 1) := by decide +kernel
theorem dX12_named_0 : decode cX12_named 0 = .ok (.iconst 0, 1) := by decide +kernel
theorem dX12_named_1 : decode cX12_named 1 = .ok (.istore 4, 2) := by decide +kernel
theorem dX12_named_3 : decode cX12_named 3 = .ok (.iload 4, 2) := by decide +kernel
theorem dX12_named_5 : decode cX12_named 5 = .ok (.aload_n 0, 1) := by decide +kernel
theorem dX12_named_6 : decode cX12_named 6 = .ok (.iload_n 1, 1) := by decide +kernel
theorem dX12_named_7 : decode cX12_named 7 = .ok (.invokevirtual 306, 3) := by decide +kernel
theorem dX12_named_10 : decode cX12_named 10 = .ok (.if_icmp .ge 37, 3) := by decide +kernel
theorem dX12_named_13 : decode cX12_named 13 = .ok (.aload_n 0, 1) := by decide +kernel
theorem dX12_named_14 : decode cX12_named 14 = .ok (.getfield 102, 3) := by decide +kernel
theorem dX12_named_17 : decode cX12_named 17 = .ok (.bipush 18, 2) := by decide +kernel
theorem dX12_named_19 : decode cX12_named 19 = .ok (.aload_n 0, 1) := by decide +kernel
theorem dX12_named_20 : decode cX12_named 20 = .ok (.getfield 109, 3) := by decide +kernel
theorem dX12_named_23 : decode cX12_named 23 = .ok (.imul, 1) := by decide +kernel
theorem dX12_named_24 : decode cX12_named 24 = .ok (.bipush 6, 2) := by decide +kernel
theorem dX12_named_26 : decode cX12_named 26 = .ok (.iload_n 1, 1) := by decide +kernel
theorem dX12_named_27 : decode cX12_named 27 = .ok (.imul, 1) := by decide +kernel
theorem dX12_named_28 : decode cX12_named 28 = .ok (.iadd, 1) := by decide +kernel
theorem dX12_named_29 : decode cX12_named 29 = .ok (.iload 4, 2) := by decide +kernel
theorem dX12_named_31 : decode cX12_named 31 = .ok (.iadd, 1) := by decide +kernel
theorem dX12_named_32 : decode cX12_named 32 = .ok (.laload, 1) := by decide +kernel
theorem dX12_named_33 : decode cX12_named 33 = .ok (.lload_n 2, 1) := by decide +kernel
theorem dX12_named_34 : decode cX12_named 34 = .ok (.lcmp, 1) := by decide +kernel
theorem dX12_named_35 : decode cX12_named 35 = .ok (.ifCond .ne 6, 3) := by decide +kernel
theorem dX12_named_38 : decode cX12_named 38 = .ok (.iload 4, 2) := by decide +kernel
theorem dX12_named_40 : decode cX12_named 40 = .ok (.ireturn, 1) := by decide +kernel
theorem dX12_named_41 : decode cX12_named 41 = .ok (.iinc 4 1, 3) := by decide +kernel
theorem dX12_named_44 : decode cX12_named 44 = .ok (.goto (-41), 3) := by decide +kernel
theorem dX12_named_47 : decode cX12_named 47 = .ok (.iconst (-1), 1) := by decide +kernel
theorem dX12_named_48 : decode cX12_named 48 = .ok (.ireturn, 1) := by decide +kernel
theorem dX12_number_0 : decode cX12_number 0 = .ok (.aload_n 0, 1) := by decide +kernel
theorem dX12_number_1 : decode cX12_number 1 = .ok (.invokevirtual 241, 3) := by decide +kernel
theorem dX12_number_4 : decode cX12_number 4 = .ok (.aload_n 0, 1) := by decide +kernel
theorem dX12_number_5 : decode cX12_number 5 = .ok (.getfield 36, 3) := by decide +kernel
theorem dX12_number_8 : decode cX12_number 8 = .ok (.ifCond .le 5, 3) := by decide +kernel
theorem dX12_number_11 : decode cX12_number 11 = .ok (.iconst 0, 1) := by decide +kernel
theorem dX12_number_12 : decode cX12_number 12 = .ok (.ireturn, 1) := by decide +kernel
theorem dX12_number_13 : decode cX12_number 13 = .ok (.aload_n 0, 1) := by decide +kernel
theorem dX12_number_14 : decode cX12_number 14 = .ok (.getfield 20, 3) := by decide +kernel
theorem dX12_number_17 : decode cX12_number 17 = .ok (.iconst 2, 1) := by decide +kernel
theorem dX12_number_18 : decode cX12_number 18 = .ok (.if_icmp .eq 12, 3) := by decide +kernel
theorem dX12_number_21 : decode cX12_number 21 = .ok (.aload_n 0, 1) := by decide +kernel
theorem dX12_number_22 : decode cX12_number 22 = .ok (.iconst 1, 1) := by decide +kernel
theorem dX12_number_23 : decode cX12_number 23 = .ok (.aload_n 0, 1) := by decide +kernel
theorem dX12_number_24 : decode cX12_number 24 = .ok (.getfield 23, 3) := by decide +kernel
theorem dX12_number_27 : decode cX12_number 27 = .ok (.invokevirtual 230, 3) := by decide +kernel
theorem dX12_number_30 : decode cX12_number 30 = .ok (.aload_n 0, 1) := by decide +kernel
theorem dX12_number_31 : decode cX12_number 31 = .ok (.getfield 36, 3) := by decide +kernel
theorem dX12_number_34 : decode cX12_number 34 = .ok (.ifCond .ne 24, 3) := by decide +kernel
theorem dX12_number_37 : decode cX12_number 37 = .ok (.aload_n 0, 1) := by decide +kernel
theorem dX12_number_38 : decode cX12_number 38 = .ok (.getfield 29, 3) := by decide +kernel
theorem dX12_number_41 : decode cX12_number 41 = .ok (.iload_n 1, 1) := by decide +kernel
theorem dX12_number_42 : decode cX12_number 42 = .ok (.iload_n 2, 1) := by decide +kernel
theorem dX12_number_43 : decode cX12_number 43 = .ok (.invokestatic 309, 3) := by decide +kernel
theorem dX12_number_46 : decode cX12_number 46 = .ok (.ifCond .ne 12, 3) := by decide +kernel
theorem dX12_number_49 : decode cX12_number 49 = .ok (.aload_n 0, 1) := by decide +kernel
theorem dX12_number_50 : decode cX12_number 50 = .ok (.iconst 4, 1) := by decide +kernel
theorem dX12_number_51 : decode cX12_number 51 = .ok (.aload_n 0, 1) := by decide +kernel
theorem dX12_number_52 : decode cX12_number 52 = .ok (.getfield 23, 3) := by decide +kernel
theorem dX12_number_55 : decode cX12_number 55 = .ok (.invokevirtual 230, 3) := by decide +kernel
theorem dX12_number_58 : decode cX12_number 58 = .ok (.aload_n 0, 1) := by decide +kernel
theorem dX12_number_59 : decode cX12_number 59 = .ok (.getfield 29, 3) := by decide +kernel
theorem dX12_number_62 : decode cX12_number 62 = .ok (.istore_n 3, 1) := by decide +kernel
theorem dX12_number_63 : decode cX12_number 63 = .ok (.aload_n 0, 1) := by decide +kernel
theorem dX12_number_64 : decode cX12_number 64 = .ok (.getfield 36, 3) := by decide +kernel
theorem dX12_number_67 : decode cX12_number 67 = .ok (.ifCond .ne 7, 3) := by decide +kernel
theorem dX12_number_70 : decode cX12_number 70 = .ok (.aload_n 0, 1) := by decide +kernel
theorem dX12_number_71 : decode cX12_number 71 = .ok (.invokevirtual 247, 3) := by decide +kernel
theorem dX12_number_74 : decode cX12_number 74 = .ok (.iload_n 3, 1) := by decide +kernel
theorem dX12_number_75 : decode cX12_number 75 = .ok (.ireturn, 1) := by decide +kernel
theorem dX12_add_0 : decode cX12_add 0 = .ok (.aload_n 0, 1) := by decide +kernel
theorem dX12_add_1 : decode cX12_add 1 = .ok (.getfield 96, 3) := by decide +kernel
theorem dX12_add_4 : decode cX12_add 4 = .ok (.sipush 1600, 3) := by decide +kernel
theorem dX12_add_7 : decode cX12_add 7 = .ok (.aload_n 0, 1) := by decide +kernel
theorem dX12_add_8 : decode cX12_add 8 = .ok (.getfield 109, 3) := by decide +kernel
theorem dX12_add_11 : decode cX12_add 11 = .ok (.imul, 1) := by decide +kernel
theorem dX12_add_12 : decode cX12_add 12 = .ok (.aload_n 0, 1) := by decide +kernel
theorem dX12_add_13 : decode cX12_add 13 = .ok (.getfield 106, 3) := by decide +kernel
theorem dX12_add_16 : decode cX12_add 16 = .ok (.iadd, 1) := by decide +kernel
theorem dX12_add_17 : decode cX12_add 17 = .ok (.iload_n 1, 1) := by decide +kernel
theorem dX12_add_18 : decode cX12_add 18 = .ok (.iastore, 1) := by decide +kernel
theorem dX12_add_19 : decode cX12_add 19 = .ok (.aload_n 0, 1) := by decide +kernel
theorem dX12_add_20 : decode cX12_add 20 = .ok (.getfield 99, 3) := by decide +kernel
theorem dX12_add_23 : decode cX12_add 23 = .ok (.sipush 1600, 3) := by decide +kernel
theorem dX12_add_26 : decode cX12_add 26 = .ok (.aload_n 0, 1) := by decide +kernel
theorem dX12_add_27 : decode cX12_add 27 = .ok (.getfield 109, 3) := by decide +kernel
theorem dX12_add_30 : decode cX12_add 30 = .ok (.imul, 1) := by decide +kernel
theorem dX12_add_31 : decode cX12_add 31 = .ok (.aload_n 0, 1) := by decide +kernel
theorem dX12_add_32 : decode cX12_add 32 = .ok (.getfield 106, 3) := by decide +kernel
theorem dX12_add_35 : decode cX12_add 35 = .ok (.iadd, 1) := by decide +kernel
theorem dX12_add_36 : decode cX12_add 36 = .ok (.iload_n 2, 1) := by decide +kernel
theorem dX12_add_37 : decode cX12_add 37 = .ok (.iastore, 1) := by decide +kernel
theorem dX12_add_38 : decode cX12_add 38 = .ok (.aload_n 0, 1) := by decide +kernel
theorem dX12_add_39 : decode cX12_add 39 = .ok (.dup, 1) := by decide +kernel
theorem dX12_add_40 : decode cX12_add 40 = .ok (.getfield 106, 3) := by decide +kernel
theorem dX12_add_43 : decode cX12_add 43 = .ok (.iconst 1, 1) := by decide +kernel
theorem dX12_add_44 : decode cX12_add 44 = .ok (.iadd, 1) := by decide +kernel
theorem dX12_add_45 : decode cX12_add 45 = .ok (.putfield 106, 3) := by decide +kernel
theorem dX12_add_48 : decode cX12_add 48 = .ok (.return_, 1) := by decide +kernel
theorem dX12_rank_0 : decode cX12_rank 0 = .ok (.iload_n 0, 1) := by decide +kernel
theorem dX12_rank_1 : decode cX12_rank 1 = .ok (.bipush 42, 2) := by decide +kernel
theorem dX12_rank_3 : decode cX12_rank 3 = .ok (.if_icmp .ne 7, 3) := by decide +kernel
theorem dX12_rank_6 : decode cX12_rank 6 = .ok (.iconst 1, 1) := by decide +kernel
theorem dX12_rank_7 : decode cX12_rank 7 = .ok (.goto 63, 3) := by decide +kernel
theorem dX12_rank_10 : decode cX12_rank 10 = .ok (.iload_n 0, 1) := by decide +kernel
theorem dX12_rank_11 : decode cX12_rank 11 = .ok (.bipush 41, 2) := by decide +kernel
theorem dX12_rank_13 : decode cX12_rank 13 = .ok (.if_icmp .ne 7, 3) := by decide +kernel
theorem dX12_rank_16 : decode cX12_rank 16 = .ok (.iconst 2, 1) := by decide +kernel
theorem dX12_rank_17 : decode cX12_rank 17 = .ok (.goto 53, 3) := by decide +kernel
theorem dX12_rank_20 : decode cX12_rank 20 = .ok (.iload_n 0, 1) := by decide +kernel
theorem dX12_rank_21 : decode cX12_rank 21 = .ok (.bipush 43, 2) := by decide +kernel
theorem dX12_rank_23 : decode cX12_rank 23 = .ok (.if_icmp .ne 7, 3) := by decide +kernel
theorem dX12_rank_26 : decode cX12_rank 26 = .ok (.iconst 3, 1) := by decide +kernel
theorem dX12_rank_27 : decode cX12_rank 27 = .ok (.goto 43, 3) := by decide +kernel
theorem dX12_rank_30 : decode cX12_rank 30 = .ok (.iload_n 0, 1) := by decide +kernel
theorem dX12_rank_31 : decode cX12_rank 31 = .ok (.bipush 38, 2) := by decide +kernel
theorem dX12_rank_33 : decode cX12_rank 33 = .ok (.if_icmp .eq 15, 3) := by decide +kernel
theorem dX12_rank_36 : decode cX12_rank 36 = .ok (.iload_n 0, 1) := by decide +kernel
theorem dX12_rank_37 : decode cX12_rank 37 = .ok (.bipush 39, 2) := by decide +kernel
theorem dX12_rank_39 : decode cX12_rank 39 = .ok (.if_icmp .eq 9, 3) := by decide +kernel
theorem dX12_rank_42 : decode cX12_rank 42 = .ok (.iload_n 0, 1) := by decide +kernel
theorem dX12_rank_43 : decode cX12_rank 43 = .ok (.bipush 40, 2) := by decide +kernel
theorem dX12_rank_45 : decode cX12_rank 45 = .ok (.if_icmp .ne 7, 3) := by decide +kernel
theorem dX12_rank_48 : decode cX12_rank 48 = .ok (.iconst 4, 1) := by decide +kernel
theorem dX12_rank_49 : decode cX12_rank 49 = .ok (.goto 21, 3) := by decide +kernel
theorem dX12_rank_52 : decode cX12_rank 52 = .ok (.iload_n 0, 1) := by decide +kernel
theorem dX12_rank_53 : decode cX12_rank 53 = .ok (.bipush 31, 2) := by decide +kernel
theorem dX12_rank_55 : decode cX12_rank 55 = .ok (.if_icmp .eq 9, 3) := by decide +kernel
theorem dX12_rank_58 : decode cX12_rank 58 = .ok (.iload_n 0, 1) := by decide +kernel
theorem dX12_rank_59 : decode cX12_rank 59 = .ok (.bipush 32, 2) := by decide +kernel
theorem dX12_rank_61 : decode cX12_rank 61 = .ok (.if_icmp .ne 7, 3) := by decide +kernel
theorem dX12_rank_64 : decode cX12_rank 64 = .ok (.iconst 5, 1) := by decide +kernel
theorem dX12_rank_65 : decode cX12_rank 65 = .ok (.goto 5, 3) := by decide +kernel
theorem dX12_rank_68 : decode cX12_rank 68 = .ok (.bipush 6, 2) := by decide +kernel
theorem dX12_rank_70 : decode cX12_rank 70 = .ok (.ireturn, 1) := by decide +kernel
theorem dX12_joins_0 : decode cX12_joins 0 = .ok (.aload_n 0, 1) := by decide +kernel
theorem dX12_joins_1 : decode cX12_joins 1 = .ok (.getfield 140, 3) := by decide +kernel
theorem dX12_joins_4 : decode cX12_joins 4 = .ok (.aload_n 0, 1) := by decide +kernel
theorem dX12_joins_5 : decode cX12_joins 5 = .ok (.getfield 128, 3) := by decide +kernel
theorem dX12_joins_8 : decode cX12_joins 8 = .ok (.aload_n 0, 1) := by decide +kernel
theorem dX12_joins_9 : decode cX12_joins 9 = .ok (.getfield 131, 3) := by decide +kernel
theorem dX12_joins_12 : decode cX12_joins 12 = .ok (.iconst 1, 1) := by decide +kernel
theorem dX12_joins_13 : decode cX12_joins 13 = .ok (.isub, 1) := by decide +kernel
theorem dX12_joins_14 : decode cX12_joins 14 = .ok (.iaload, 1) := by decide +kernel
theorem dX12_joins_15 : decode cX12_joins 15 = .ok (.if_icmp .le 72, 3) := by decide +kernel
theorem dX12_joins_18 : decode cX12_joins 18 = .ok (.aload_n 0, 1) := by decide +kernel
theorem dX12_joins_19 : decode cX12_joins 19 = .ok (.getfield 137, 3) := by decide +kernel
theorem dX12_joins_22 : decode cX12_joins 22 = .ok (.aload_n 0, 1) := by decide +kernel
theorem dX12_joins_23 : decode cX12_joins 23 = .ok (.getfield 140, 3) := by decide +kernel
theorem dX12_joins_26 : decode cX12_joins 26 = .ok (.iconst 1, 1) := by decide +kernel
theorem dX12_joins_27 : decode cX12_joins 27 = .ok (.isub, 1) := by decide +kernel
theorem dX12_joins_28 : decode cX12_joins 28 = .ok (.iaload, 1) := by decide +kernel
theorem dX12_joins_29 : decode cX12_joins 29 = .ok (.invokestatic 313, 3) := by decide +kernel
theorem dX12_joins_32 : decode cX12_joins 32 = .ok (.iload_n 1, 1) := by decide +kernel
theorem dX12_joins_33 : decode cX12_joins 33 = .ok (.if_icmp .lt 54, 3) := by decide +kernel
theorem dX12_joins_36 : decode cX12_joins 36 = .ok (.aload_n 0, 1) := by decide +kernel
theorem dX12_joins_37 : decode cX12_joins 37 = .ok (.dup, 1) := by decide +kernel
theorem dX12_joins_38 : decode cX12_joins 38 = .ok (.getfield 140, 3) := by decide +kernel
theorem dX12_joins_41 : decode cX12_joins 41 = .ok (.iconst 1, 1) := by decide +kernel
theorem dX12_joins_42 : decode cX12_joins 42 = .ok (.isub, 1) := by decide +kernel
theorem dX12_joins_43 : decode cX12_joins 43 = .ok (.putfield 140, 3) := by decide +kernel
theorem dX12_joins_46 : decode cX12_joins 46 = .ok (.aload_n 0, 1) := by decide +kernel
theorem dX12_joins_47 : decode cX12_joins 47 = .ok (.aload_n 0, 1) := by decide +kernel
theorem dX12_joins_48 : decode cX12_joins 48 = .ok (.getfield 137, 3) := by decide +kernel
theorem dX12_joins_51 : decode cX12_joins 51 = .ok (.aload_n 0, 1) := by decide +kernel
theorem dX12_joins_52 : decode cX12_joins 52 = .ok (.getfield 140, 3) := by decide +kernel
theorem dX12_joins_55 : decode cX12_joins 55 = .ok (.iaload, 1) := by decide +kernel
theorem dX12_joins_56 : decode cX12_joins 56 = .ok (.iconst 0, 1) := by decide +kernel
theorem dX12_joins_57 : decode cX12_joins 57 = .ok (.invokevirtual 316, 3) := by decide +kernel
theorem dX12_joins_60 : decode cX12_joins 60 = .ok (.aload_n 0, 1) := by decide +kernel
theorem dX12_joins_61 : decode cX12_joins 61 = .ok (.getfield 137, 3) := by decide +kernel
theorem dX12_joins_64 : decode cX12_joins 64 = .ok (.aload_n 0, 1) := by decide +kernel
theorem dX12_joins_65 : decode cX12_joins 65 = .ok (.getfield 140, 3) := by decide +kernel
theorem dX12_joins_68 : decode cX12_joins 68 = .ok (.iaload, 1) := by decide +kernel
theorem dX12_joins_69 : decode cX12_joins 69 = .ok (.bipush 43, 2) := by decide +kernel
theorem dX12_joins_71 : decode cX12_joins 71 = .ok (.if_icmp .ne (-71), 3) := by decide +kernel
theorem dX12_joins_74 : decode cX12_joins 74 = .ok (.aload_n 0, 1) := by decide +kernel
theorem dX12_joins_75 : decode cX12_joins 75 = .ok (.dup, 1) := by decide +kernel
theorem dX12_joins_76 : decode cX12_joins 76 = .ok (.getfield 134, 3) := by decide +kernel
theorem dX12_joins_79 : decode cX12_joins 79 = .ok (.iconst 1, 1) := by decide +kernel
theorem dX12_joins_80 : decode cX12_joins 80 = .ok (.isub, 1) := by decide +kernel
theorem dX12_joins_81 : decode cX12_joins 81 = .ok (.putfield 134, 3) := by decide +kernel
theorem dX12_joins_84 : decode cX12_joins 84 = .ok (.goto (-84), 3) := by decide +kernel
theorem dX12_joins_87 : decode cX12_joins 87 = .ok (.return_, 1) := by decide +kernel
theorem dX12_holdsBack_0 : decode cX12_holdsBack 0 = .ok (.aload_n 0, 1) := by decide +kernel
theorem dX12_holdsBack_1 : decode cX12_holdsBack 1 = .ok (.getfield 137, 3) := by decide +kernel
theorem dX12_holdsBack_4 : decode cX12_holdsBack 4 = .ok (.aload_n 0, 1) := by decide +kernel
theorem dX12_holdsBack_5 : decode cX12_holdsBack 5 = .ok (.getfield 140, 3) := by decide +kernel
theorem dX12_holdsBack_8 : decode cX12_holdsBack 8 = .ok (.iload_n 1, 1) := by decide +kernel
theorem dX12_holdsBack_9 : decode cX12_holdsBack 9 = .ok (.iastore, 1) := by decide +kernel
theorem dX12_holdsBack_10 : decode cX12_holdsBack 10 = .ok (.aload_n 0, 1) := by decide +kernel
theorem dX12_holdsBack_11 : decode cX12_holdsBack 11 = .ok (.dup, 1) := by decide +kernel
theorem dX12_holdsBack_12 : decode cX12_holdsBack 12 = .ok (.getfield 140, 3) := by decide +kernel
theorem dX12_holdsBack_15 : decode cX12_holdsBack 15 = .ok (.iconst 1, 1) := by decide +kernel
theorem dX12_holdsBack_16 : decode cX12_holdsBack 16 = .ok (.iadd, 1) := by decide +kernel
theorem dX12_holdsBack_17 : decode cX12_holdsBack 17 = .ok (.putfield 140, 3) := by decide +kernel
theorem dX12_holdsBack_20 : decode cX12_holdsBack 20 = .ok (.return_, 1) := by decide +kernel
theorem dX12_pushes_0 : decode cX12_pushes 0 = .ok (.aload_n 0, 1) := by decide +kernel
theorem dX12_pushes_1 : decode cX12_pushes 1 = .ok (.getfield 115, 3) := by decide +kernel
theorem dX12_pushes_4 : decode cX12_pushes 4 = .ok (.aload_n 0, 1) := by decide +kernel
theorem dX12_pushes_5 : decode cX12_pushes 5 = .ok (.getfield 131, 3) := by decide +kernel
theorem dX12_pushes_8 : decode cX12_pushes 8 = .ok (.iload_n 1, 1) := by decide +kernel
theorem dX12_pushes_9 : decode cX12_pushes 9 = .ok (.iastore, 1) := by decide +kernel
theorem dX12_pushes_10 : decode cX12_pushes 10 = .ok (.aload_n 0, 1) := by decide +kernel
theorem dX12_pushes_11 : decode cX12_pushes 11 = .ok (.getfield 118, 3) := by decide +kernel
theorem dX12_pushes_14 : decode cX12_pushes 14 = .ok (.aload_n 0, 1) := by decide +kernel
theorem dX12_pushes_15 : decode cX12_pushes 15 = .ok (.getfield 131, 3) := by decide +kernel
theorem dX12_pushes_18 : decode cX12_pushes 18 = .ok (.iconst 0, 1) := by decide +kernel
theorem dX12_pushes_19 : decode cX12_pushes 19 = .ok (.iastore, 1) := by decide +kernel
theorem dX12_pushes_20 : decode cX12_pushes 20 = .ok (.aload_n 0, 1) := by decide +kernel
theorem dX12_pushes_21 : decode cX12_pushes 21 = .ok (.getfield 121, 3) := by decide +kernel
theorem dX12_pushes_24 : decode cX12_pushes 24 = .ok (.aload_n 0, 1) := by decide +kernel
theorem dX12_pushes_25 : decode cX12_pushes 25 = .ok (.getfield 131, 3) := by decide +kernel
theorem dX12_pushes_28 : decode cX12_pushes 28 = .ok (.iconst 1, 1) := by decide +kernel
theorem dX12_pushes_29 : decode cX12_pushes 29 = .ok (.bastore, 1) := by decide +kernel
theorem dX12_pushes_30 : decode cX12_pushes 30 = .ok (.aload_n 0, 1) := by decide +kernel
theorem dX12_pushes_31 : decode cX12_pushes 31 = .ok (.getfield 128, 3) := by decide +kernel
theorem dX12_pushes_34 : decode cX12_pushes 34 = .ok (.aload_n 0, 1) := by decide +kernel
theorem dX12_pushes_35 : decode cX12_pushes 35 = .ok (.getfield 131, 3) := by decide +kernel
theorem dX12_pushes_38 : decode cX12_pushes 38 = .ok (.aload_n 0, 1) := by decide +kernel
theorem dX12_pushes_39 : decode cX12_pushes 39 = .ok (.getfield 140, 3) := by decide +kernel
theorem dX12_pushes_42 : decode cX12_pushes 42 = .ok (.iastore, 1) := by decide +kernel
theorem dX12_pushes_43 : decode cX12_pushes 43 = .ok (.aload_n 0, 1) := by decide +kernel
theorem dX12_pushes_44 : decode cX12_pushes 44 = .ok (.dup, 1) := by decide +kernel
theorem dX12_pushes_45 : decode cX12_pushes 45 = .ok (.getfield 131, 3) := by decide +kernel
theorem dX12_pushes_48 : decode cX12_pushes 48 = .ok (.iconst 1, 1) := by decide +kernel
theorem dX12_pushes_49 : decode cX12_pushes 49 = .ok (.iadd, 1) := by decide +kernel
theorem dX12_pushes_50 : decode cX12_pushes 50 = .ok (.putfield 131, 3) := by decide +kernel
theorem dX12_pushes_53 : decode cX12_pushes 53 = .ok (.return_, 1) := by decide +kernel
theorem dX12_opens_0 : decode cX12_opens 0 = .ok (.aload_n 0, 1) := by decide +kernel
theorem dX12_opens_1 : decode cX12_opens 1 = .ok (.getfield 134, 3) := by decide +kernel
theorem dX12_opens_4 : decode cX12_opens 4 = .ok (.bipush 7, 2) := by decide +kernel
theorem dX12_opens_6 : decode cX12_opens 6 = .ok (.if_icmp .ne 12, 3) := by decide +kernel
theorem dX12_opens_9 : decode cX12_opens 9 = .ok (.aload_n 0, 1) := by decide +kernel
theorem dX12_opens_10 : decode cX12_opens 10 = .ok (.iconst 5, 1) := by decide +kernel
theorem dX12_opens_11 : decode cX12_opens 11 = .ok (.aload_n 0, 1) := by decide +kernel
theorem dX12_opens_12 : decode cX12_opens 12 = .ok (.getfield 23, 3) := by decide +kernel
theorem dX12_opens_15 : decode cX12_opens 15 = .ok (.invokevirtual 230, 3) := by decide +kernel
theorem dX12_opens_18 : decode cX12_opens 18 = .ok (.aload_n 0, 1) := by decide +kernel
theorem dX12_opens_19 : decode cX12_opens 19 = .ok (.getfield 36, 3) := by decide +kernel
theorem dX12_opens_22 : decode cX12_opens 22 = .ok (.ifCond .le 4, 3) := by decide +kernel
theorem dX12_opens_25 : decode cX12_opens 25 = .ok (.return_, 1) := by decide +kernel
theorem dX12_opens_26 : decode cX12_opens 26 = .ok (.aload_n 0, 1) := by decide +kernel
theorem dX12_opens_27 : decode cX12_opens 27 = .ok (.dup, 1) := by decide +kernel
theorem dX12_opens_28 : decode cX12_opens 28 = .ok (.getfield 134, 3) := by decide +kernel
theorem dX12_opens_31 : decode cX12_opens 31 = .ok (.iconst 1, 1) := by decide +kernel
theorem dX12_opens_32 : decode cX12_opens 32 = .ok (.iadd, 1) := by decide +kernel
theorem dX12_opens_33 : decode cX12_opens 33 = .ok (.putfield 134, 3) := by decide +kernel
theorem dX12_opens_36 : decode cX12_opens 36 = .ok (.aload_n 0, 1) := by decide +kernel
theorem dX12_opens_37 : decode cX12_opens 37 = .ok (.invokevirtual 247, 3) := by decide +kernel
theorem dX12_opens_40 : decode cX12_opens 40 = .ok (.aload_n 0, 1) := by decide +kernel
theorem dX12_opens_41 : decode cX12_opens 41 = .ok (.iload_n 1, 1) := by decide +kernel
theorem dX12_opens_42 : decode cX12_opens 42 = .ok (.invokevirtual 319, 3) := by decide +kernel
theorem dX12_opens_45 : decode cX12_opens 45 = .ok (.return_, 1) := by decide +kernel
theorem dX12_isTest_0 : decode cX12_isTest 0 = .ok (.iload_n 0, 1) := by decide +kernel
theorem dX12_isTest_1 : decode cX12_isTest 1 = .ok (.iconst 1, 1) := by decide +kernel
theorem dX12_isTest_2 : decode cX12_isTest 2 = .ok (.if_icmp .eq 14, 3) := by decide +kernel
theorem dX12_isTest_5 : decode cX12_isTest 5 = .ok (.iload_n 0, 1) := by decide +kernel
theorem dX12_isTest_6 : decode cX12_isTest 6 = .ok (.iconst 5, 1) := by decide +kernel
theorem dX12_isTest_7 : decode cX12_isTest 7 = .ok (.if_icmp .eq 9, 3) := by decide +kernel
theorem dX12_isTest_10 : decode cX12_isTest 10 = .ok (.iload_n 0, 1) := by decide +kernel
theorem dX12_isTest_11 : decode cX12_isTest 11 = .ok (.bipush 6, 2) := by decide +kernel
theorem dX12_isTest_13 : decode cX12_isTest 13 = .ok (.if_icmp .ne 7, 3) := by decide +kernel
theorem dX12_isTest_16 : decode cX12_isTest 16 = .ok (.iconst 1, 1) := by decide +kernel
theorem dX12_isTest_17 : decode cX12_isTest 17 = .ok (.goto 4, 3) := by decide +kernel
theorem dX12_isTest_20 : decode cX12_isTest 20 = .ok (.iconst 0, 1) := by decide +kernel
theorem dX12_isTest_21 : decode cX12_isTest 21 = .ok (.ireturn, 1) := by decide +kernel
theorem dX12_operand_0 : decode cX12_operand 0 = .ok (.aload_n 0, 1) := by decide +kernel
theorem dX12_operand_1 : decode cX12_operand 1 = .ok (.invokevirtual 241, 3) := by decide +kernel
theorem dX12_operand_4 : decode cX12_operand 4 = .ok (.aload_n 0, 1) := by decide +kernel
theorem dX12_operand_5 : decode cX12_operand 5 = .ok (.getfield 36, 3) := by decide +kernel
theorem dX12_operand_8 : decode cX12_operand 8 = .ok (.ifCond .le 5, 3) := by decide +kernel
theorem dX12_operand_11 : decode cX12_operand 11 = .ok (.iconst 1, 1) := by decide +kernel
theorem dX12_operand_12 : decode cX12_operand 12 = .ok (.ireturn, 1) := by decide +kernel
theorem dX12_operand_13 : decode cX12_operand 13 = .ok (.aload_n 0, 1) := by decide +kernel
theorem dX12_operand_14 : decode cX12_operand 14 = .ok (.getfield 131, 3) := by decide +kernel
theorem dX12_operand_17 : decode cX12_operand 17 = .ok (.iconst 1, 1) := by decide +kernel
theorem dX12_operand_18 : decode cX12_operand 18 = .ok (.isub, 1) := by decide +kernel
theorem dX12_operand_19 : decode cX12_operand 19 = .ok (.istore_n 1, 1) := by decide +kernel
theorem dX12_operand_20 : decode cX12_operand 20 = .ok (.aload_n 0, 1) := by decide +kernel
theorem dX12_operand_21 : decode cX12_operand 21 = .ok (.getfield 115, 3) := by decide +kernel
theorem dX12_operand_24 : decode cX12_operand 24 = .ok (.iload_n 1, 1) := by decide +kernel
theorem dX12_operand_25 : decode cX12_operand 25 = .ok (.iaload, 1) := by decide +kernel
theorem dX12_operand_26 : decode cX12_operand 26 = .ok (.invokestatic 322, 3) := by decide +kernel
theorem dX12_operand_29 : decode cX12_operand 29 = .ok (.ifCond .eq 16, 3) := by decide +kernel
theorem dX12_operand_32 : decode cX12_operand 32 = .ok (.aload_n 0, 1) := by decide +kernel
theorem dX12_operand_33 : decode cX12_operand 33 = .ok (.getfield 121, 3) := by decide +kernel
theorem dX12_operand_36 : decode cX12_operand 36 = .ok (.iload_n 1, 1) := by decide +kernel
theorem dX12_operand_37 : decode cX12_operand 37 = .ok (.baload, 1) := by decide +kernel
theorem dX12_operand_38 : decode cX12_operand 38 = .ok (.ifCond .eq 7, 3) := by decide +kernel
theorem dX12_operand_41 : decode cX12_operand 41 = .ok (.iconst 1, 1) := by decide +kernel
theorem dX12_operand_42 : decode cX12_operand 42 = .ok (.goto 4, 3) := by decide +kernel
theorem dX12_operand_45 : decode cX12_operand 45 = .ok (.iconst 0, 1) := by decide +kernel
theorem dX12_operand_46 : decode cX12_operand 46 = .ok (.istore_n 2, 1) := by decide +kernel
theorem dX12_operand_47 : decode cX12_operand 47 = .ok (.iload_n 2, 1) := by decide +kernel
theorem dX12_operand_48 : decode cX12_operand 48 = .ok (.ifCond .eq 62, 3) := by decide +kernel
theorem dX12_operand_51 : decode cX12_operand 51 = .ok (.aload_n 0, 1) := by decide +kernel
theorem dX12_operand_52 : decode cX12_operand 52 = .ok (.ldc2_w 298, 3) := by decide +kernel
theorem dX12_operand_55 : decode cX12_operand 55 = .ok (.invokevirtual 325, 3) := by decide +kernel
theorem dX12_operand_58 : decode cX12_operand 58 = .ok (.ifCond .eq 52, 3) := by decide +kernel
theorem dX12_operand_61 : decode cX12_operand 61 = .ok (.aload_n 0, 1) := by decide +kernel
theorem dX12_operand_62 : decode cX12_operand 62 = .ok (.getfield 134, 3) := by decide +kernel
theorem dX12_operand_65 : decode cX12_operand 65 = .ok (.bipush 7, 2) := by decide +kernel
theorem dX12_operand_67 : decode cX12_operand 67 = .ok (.if_icmp .ne 12, 3) := by decide +kernel
theorem dX12_operand_70 : decode cX12_operand 70 = .ok (.aload_n 0, 1) := by decide +kernel
theorem dX12_operand_71 : decode cX12_operand 71 = .ok (.iconst 5, 1) := by decide +kernel
theorem dX12_operand_72 : decode cX12_operand 72 = .ok (.aload_n 0, 1) := by decide +kernel
theorem dX12_operand_73 : decode cX12_operand 73 = .ok (.getfield 23, 3) := by decide +kernel
theorem dX12_operand_76 : decode cX12_operand 76 = .ok (.invokevirtual 230, 3) := by decide +kernel
theorem dX12_operand_79 : decode cX12_operand 79 = .ok (.aload_n 0, 1) := by decide +kernel
theorem dX12_operand_80 : decode cX12_operand 80 = .ok (.getfield 36, 3) := by decide +kernel
theorem dX12_operand_83 : decode cX12_operand 83 = .ok (.ifCond .le 5, 3) := by decide +kernel
theorem dX12_operand_86 : decode cX12_operand 86 = .ok (.iconst 1, 1) := by decide +kernel
theorem dX12_operand_87 : decode cX12_operand 87 = .ok (.ireturn, 1) := by decide +kernel
theorem dX12_operand_88 : decode cX12_operand 88 = .ok (.aload_n 0, 1) := by decide +kernel
theorem dX12_operand_89 : decode cX12_operand 89 = .ok (.dup, 1) := by decide +kernel
theorem dX12_operand_90 : decode cX12_operand 90 = .ok (.getfield 134, 3) := by decide +kernel
theorem dX12_operand_93 : decode cX12_operand 93 = .ok (.iconst 1, 1) := by decide +kernel
theorem dX12_operand_94 : decode cX12_operand 94 = .ok (.iadd, 1) := by decide +kernel
theorem dX12_operand_95 : decode cX12_operand 95 = .ok (.putfield 134, 3) := by decide +kernel
theorem dX12_operand_98 : decode cX12_operand 98 = .ok (.aload_n 0, 1) := by decide +kernel
theorem dX12_operand_99 : decode cX12_operand 99 = .ok (.bipush 43, 2) := by decide +kernel
theorem dX12_operand_101 : decode cX12_operand 101 = .ok (.invokevirtual 329, 3) := by decide +kernel
theorem dX12_operand_104 : decode cX12_operand 104 = .ok (.aload_n 0, 1) := by decide +kernel
theorem dX12_operand_105 : decode cX12_operand 105 = .ok (.invokevirtual 247, 3) := by decide +kernel
theorem dX12_operand_108 : decode cX12_operand 108 = .ok (.iconst 0, 1) := by decide +kernel
theorem dX12_operand_109 : decode cX12_operand 109 = .ok (.ireturn, 1) := by decide +kernel
theorem dX12_operand_110 : decode cX12_operand 110 = .ok (.aload_n 0, 1) := by decide +kernel
theorem dX12_operand_111 : decode cX12_operand 111 = .ok (.getfield 121, 3) := by decide +kernel
theorem dX12_operand_114 : decode cX12_operand 114 = .ok (.iload_n 1, 1) := by decide +kernel
theorem dX12_operand_115 : decode cX12_operand 115 = .ok (.iconst 0, 1) := by decide +kernel
theorem dX12_operand_116 : decode cX12_operand 116 = .ok (.bastore, 1) := by decide +kernel
theorem dX12_operand_117 : decode cX12_operand 117 = .ok (.iload_n 2, 1) := by decide +kernel
theorem dX12_operand_118 : decode cX12_operand 118 = .ok (.ifCond .eq 19, 3) := by decide +kernel
theorem dX12_operand_121 : decode cX12_operand 121 = .ok (.aload_n 0, 1) := by decide +kernel
theorem dX12_operand_122 : decode cX12_operand 122 = .ok (.bipush 91, 2) := by decide +kernel
theorem dX12_operand_124 : decode cX12_operand 124 = .ok (.invokevirtual 244, 3) := by decide +kernel
theorem dX12_operand_127 : decode cX12_operand 127 = .ok (.ifCond .eq 10, 3) := by decide +kernel
theorem dX12_operand_130 : decode cX12_operand 130 = .ok (.aload_n 0, 1) := by decide +kernel
theorem dX12_operand_131 : decode cX12_operand 131 = .ok (.iconst 5, 1) := by decide +kernel
theorem dX12_operand_132 : decode cX12_operand 132 = .ok (.invokevirtual 332, 3) := by decide +kernel
theorem dX12_operand_135 : decode cX12_operand 135 = .ok (.iconst 0, 1) := by decide +kernel
theorem dX12_operand_136 : decode cX12_operand 136 = .ok (.ireturn, 1) := by decide +kernel
theorem dX12_operand_137 : decode cX12_operand 137 = .ok (.iload_n 2, 1) := by decide +kernel
theorem dX12_operand_138 : decode cX12_operand 138 = .ok (.ifCond .eq 33, 3) := by decide +kernel
theorem dX12_operand_141 : decode cX12_operand 141 = .ok (.aload_n 0, 1) := by decide +kernel
theorem dX12_operand_142 : decode cX12_operand 142 = .ok (.ldc2_w 300, 3) := by decide +kernel
theorem dX12_operand_145 : decode cX12_operand 145 = .ok (.invokevirtual 325, 3) := by decide +kernel
theorem dX12_operand_148 : decode cX12_operand 148 = .ok (.ifCond .eq 23, 3) := by decide +kernel
theorem dX12_operand_151 : decode cX12_operand 151 = .ok (.aload_n 0, 1) := by decide +kernel
theorem dX12_operand_152 : decode cX12_operand 152 = .ok (.bipush 30, 2) := by decide +kernel
theorem dX12_operand_154 : decode cX12_operand 154 = .ok (.iconst 0, 1) := by decide +kernel
theorem dX12_operand_155 : decode cX12_operand 155 = .ok (.invokevirtual 316, 3) := by decide +kernel
theorem dX12_operand_158 : decode cX12_operand 158 = .ok (.aload_n 0, 1) := by decide +kernel
theorem dX12_operand_159 : decode cX12_operand 159 = .ok (.getfield 118, 3) := by decide +kernel
theorem dX12_operand_162 : decode cX12_operand 162 = .ok (.iload_n 1, 1) := by decide +kernel
theorem dX12_operand_163 : decode cX12_operand 163 = .ok (.iconst 2, 1) := by decide +kernel
theorem dX12_operand_164 : decode cX12_operand 164 = .ok (.iastore, 1) := by decide +kernel
theorem dX12_operand_165 : decode cX12_operand 165 = .ok (.aload_n 0, 1) := by decide +kernel
theorem dX12_operand_166 : decode cX12_operand 166 = .ok (.invokevirtual 247, 3) := by decide +kernel
theorem dX12_operand_169 : decode cX12_operand 169 = .ok (.iconst 1, 1) := by decide +kernel
theorem dX12_operand_170 : decode cX12_operand 170 = .ok (.ireturn, 1) := by decide +kernel
theorem dX12_operand_171 : decode cX12_operand 171 = .ok (.aload_n 0, 1) := by decide +kernel
theorem dX12_operand_172 : decode cX12_operand 172 = .ok (.bipush 40, 2) := by decide +kernel
theorem dX12_operand_174 : decode cX12_operand 174 = .ok (.invokevirtual 244, 3) := by decide +kernel
theorem dX12_operand_177 : decode cX12_operand 177 = .ok (.ifCond .eq 10, 3) := by decide +kernel
theorem dX12_operand_180 : decode cX12_operand 180 = .ok (.aload_n 0, 1) := by decide +kernel
theorem dX12_operand_181 : decode cX12_operand 181 = .ok (.iconst 2, 1) := by decide +kernel
theorem dX12_operand_182 : decode cX12_operand 182 = .ok (.invokevirtual 332, 3) := by decide +kernel
theorem dX12_operand_185 : decode cX12_operand 185 = .ok (.iconst 0, 1) := by decide +kernel
theorem dX12_operand_186 : decode cX12_operand 186 = .ok (.ireturn, 1) := by decide +kernel
theorem dX12_operand_187 : decode cX12_operand 187 = .ok (.aload_n 0, 1) := by decide +kernel
theorem dX12_operand_188 : decode cX12_operand 188 = .ok (.ldc2_w 302, 3) := by decide +kernel
theorem dX12_operand_191 : decode cX12_operand 191 = .ok (.invokevirtual 325, 3) := by decide +kernel
theorem dX12_operand_194 : decode cX12_operand 194 = .ok (.ifCond .ne 23, 3) := by decide +kernel
theorem dX12_operand_197 : decode cX12_operand 197 = .ok (.aload_n 0, 1) := by decide +kernel
theorem dX12_operand_198 : decode cX12_operand 198 = .ok (.ldc2_w 304, 3) := by decide +kernel
theorem dX12_operand_201 : decode cX12_operand 201 = .ok (.invokevirtual 325, 3) := by decide +kernel
theorem dX12_operand_204 : decode cX12_operand 204 = .ok (.ifCond .ne 13, 3) := by decide +kernel
theorem dX12_operand_207 : decode cX12_operand 207 = .ok (.aload_n 0, 1) := by decide +kernel
theorem dX12_operand_208 : decode cX12_operand 208 = .ok (.ldc2_w 292, 3) := by decide +kernel
theorem dX12_operand_211 : decode cX12_operand 211 = .ok (.invokevirtual 325, 3) := by decide +kernel
theorem dX12_operand_214 : decode cX12_operand 214 = .ok (.ifCond .eq 99, 3) := by decide +kernel
theorem dX12_operand_217 : decode cX12_operand 217 = .ok (.aload_n 0, 1) := by decide +kernel
theorem dX12_operand_218 : decode cX12_operand 218 = .ok (.ldc2_w 302, 3) := by decide +kernel
theorem dX12_operand_221 : decode cX12_operand 221 = .ok (.invokevirtual 325, 3) := by decide +kernel
theorem dX12_operand_224 : decode cX12_operand 224 = .ok (.ifCond .eq 8, 3) := by decide +kernel
theorem dX12_operand_227 : decode cX12_operand 227 = .ok (.bipush 36, 2) := by decide +kernel
theorem dX12_operand_229 : decode cX12_operand 229 = .ok (.goto 20, 3) := by decide +kernel
theorem dX12_operand_232 : decode cX12_operand 232 = .ok (.aload_n 0, 1) := by decide +kernel
theorem dX12_operand_233 : decode cX12_operand 233 = .ok (.ldc2_w 304, 3) := by decide +kernel
theorem dX12_operand_236 : decode cX12_operand 236 = .ok (.invokevirtual 325, 3) := by decide +kernel
theorem dX12_operand_239 : decode cX12_operand 239 = .ok (.ifCond .eq 8, 3) := by decide +kernel
theorem dX12_operand_242 : decode cX12_operand 242 = .ok (.bipush 37, 2) := by decide +kernel
theorem dX12_operand_244 : decode cX12_operand 244 = .ok (.goto 5, 3) := by decide +kernel
theorem dX12_operand_247 : decode cX12_operand 247 = .ok (.bipush 44, 2) := by decide +kernel
theorem dX12_operand_249 : decode cX12_operand 249 = .ok (.istore_n 3, 1) := by decide +kernel
theorem dX12_operand_250 : decode cX12_operand 250 = .ok (.aload_n 0, 1) := by decide +kernel
theorem dX12_operand_251 : decode cX12_operand 251 = .ok (.invokevirtual 247, 3) := by decide +kernel
theorem dX12_operand_254 : decode cX12_operand 254 = .ok (.aload_n 0, 1) := by decide +kernel
theorem dX12_operand_255 : decode cX12_operand 255 = .ok (.invokevirtual 241, 3) := by decide +kernel
theorem dX12_operand_258 : decode cX12_operand 258 = .ok (.aload_n 0, 1) := by decide +kernel
theorem dX12_operand_259 : decode cX12_operand 259 = .ok (.bipush 40, 2) := by decide +kernel
theorem dX12_operand_261 : decode cX12_operand 261 = .ok (.invokevirtual 244, 3) := by decide +kernel
theorem dX12_operand_264 : decode cX12_operand 264 = .ok (.ifCond .ne 12, 3) := by decide +kernel
theorem dX12_operand_267 : decode cX12_operand 267 = .ok (.aload_n 0, 1) := by decide +kernel
theorem dX12_operand_268 : decode cX12_operand 268 = .ok (.iconst 1, 1) := by decide +kernel
theorem dX12_operand_269 : decode cX12_operand 269 = .ok (.aload_n 0, 1) := by decide +kernel
theorem dX12_operand_270 : decode cX12_operand 270 = .ok (.getfield 23, 3) := by decide +kernel
theorem dX12_operand_273 : decode cX12_operand 273 = .ok (.invokevirtual 230, 3) := by decide +kernel
theorem dX12_operand_276 : decode cX12_operand 276 = .ok (.aload_n 0, 1) := by decide +kernel
theorem dX12_operand_277 : decode cX12_operand 277 = .ok (.iload_n 3, 1) := by decide +kernel
theorem dX12_operand_278 : decode cX12_operand 278 = .ok (.bipush 44, 2) := by decide +kernel
theorem dX12_operand_280 : decode cX12_operand 280 = .ok (.if_icmp .ne 8, 3) := by decide +kernel
theorem dX12_operand_283 : decode cX12_operand 283 = .ok (.bipush 6, 2) := by decide +kernel
theorem dX12_operand_285 : decode cX12_operand 285 = .ok (.goto 4, 3) := by decide +kernel
theorem dX12_operand_288 : decode cX12_operand 288 = .ok (.iconst 3, 1) := by decide +kernel
theorem dX12_operand_289 : decode cX12_operand 289 = .ok (.invokevirtual 332, 3) := by decide +kernel
theorem dX12_operand_292 : decode cX12_operand 292 = .ok (.aload_n 0, 1) := by decide +kernel
theorem dX12_operand_293 : decode cX12_operand 293 = .ok (.getfield 36, 3) := by decide +kernel
theorem dX12_operand_296 : decode cX12_operand 296 = .ok (.ifCond .ne 15, 3) := by decide +kernel
theorem dX12_operand_299 : decode cX12_operand 299 = .ok (.aload_n 0, 1) := by decide +kernel
theorem dX12_operand_300 : decode cX12_operand 300 = .ok (.getfield 125, 3) := by decide +kernel
theorem dX12_operand_303 : decode cX12_operand 303 = .ok (.aload_n 0, 1) := by decide +kernel
theorem dX12_operand_304 : decode cX12_operand 304 = .ok (.getfield 131, 3) := by decide +kernel
theorem dX12_operand_307 : decode cX12_operand 307 = .ok (.iconst 1, 1) := by decide +kernel
theorem dX12_operand_308 : decode cX12_operand 308 = .ok (.isub, 1) := by decide +kernel
theorem dX12_operand_309 : decode cX12_operand 309 = .ok (.iload_n 3, 1) := by decide +kernel
theorem dX12_operand_310 : decode cX12_operand 310 = .ok (.iastore, 1) := by decide +kernel
theorem dX12_operand_311 : decode cX12_operand 311 = .ok (.iconst 0, 1) := by decide +kernel
theorem dX12_operand_312 : decode cX12_operand 312 = .ok (.ireturn, 1) := by decide +kernel
theorem dX12_operand_313 : decode cX12_operand 313 = .ok (.aload_n 0, 1) := by decide +kernel
theorem dX12_operand_314 : decode cX12_operand 314 = .ok (.getfield 20, 3) := by decide +kernel
theorem dX12_operand_317 : decode cX12_operand 317 = .ok (.iconst 2, 1) := by decide +kernel
theorem dX12_operand_318 : decode cX12_operand 318 = .ok (.if_icmp .ne 7, 3) := by decide +kernel
theorem dX12_operand_321 : decode cX12_operand 321 = .ok (.iconst 0, 1) := by decide +kernel
theorem dX12_operand_322 : decode cX12_operand 322 = .ok (.goto 134, 3) := by decide +kernel
theorem dX12_operand_325 : decode cX12_operand 325 = .ok (.aload_n 0, 1) := by decide +kernel
theorem dX12_operand_326 : decode cX12_operand 326 = .ok (.ldc2_w 280, 3) := by decide +kernel
theorem dX12_operand_329 : decode cX12_operand 329 = .ok (.invokevirtual 325, 3) := by decide +kernel
theorem dX12_operand_332 : decode cX12_operand 332 = .ok (.ifCond .eq 7, 3) := by decide +kernel
theorem dX12_operand_335 : decode cX12_operand 335 = .ok (.iconst 1, 1) := by decide +kernel
theorem dX12_operand_336 : decode cX12_operand 336 = .ok (.goto 120, 3) := by decide +kernel
theorem dX12_operand_339 : decode cX12_operand 339 = .ok (.aload_n 0, 1) := by decide +kernel
theorem dX12_operand_340 : decode cX12_operand 340 = .ok (.ldc2_w 282, 3) := by decide +kernel
theorem dX12_operand_343 : decode cX12_operand 343 = .ok (.invokevirtual 325, 3) := by decide +kernel
theorem dX12_operand_346 : decode cX12_operand 346 = .ok (.ifCond .eq 7, 3) := by decide +kernel
theorem dX12_operand_349 : decode cX12_operand 349 = .ok (.iconst 2, 1) := by decide +kernel
theorem dX12_operand_350 : decode cX12_operand 350 = .ok (.goto 106, 3) := by decide +kernel
theorem dX12_operand_353 : decode cX12_operand 353 = .ok (.aload_n 0, 1) := by decide +kernel
theorem dX12_operand_354 : decode cX12_operand 354 = .ok (.ldc2_w 264, 3) := by decide +kernel
theorem dX12_operand_357 : decode cX12_operand 357 = .ok (.invokevirtual 325, 3) := by decide +kernel
theorem dX12_operand_360 : decode cX12_operand 360 = .ok (.ifCond .eq 7, 3) := by decide +kernel
theorem dX12_operand_363 : decode cX12_operand 363 = .ok (.iconst 3, 1) := by decide +kernel
theorem dX12_operand_364 : decode cX12_operand 364 = .ok (.goto 92, 3) := by decide +kernel
theorem dX12_operand_367 : decode cX12_operand 367 = .ok (.aload_n 0, 1) := by decide +kernel
theorem dX12_operand_368 : decode cX12_operand 368 = .ok (.ldc2_w 284, 3) := by decide +kernel
theorem dX12_operand_371 : decode cX12_operand 371 = .ok (.invokevirtual 325, 3) := by decide +kernel
theorem dX12_operand_374 : decode cX12_operand 374 = .ok (.ifCond .eq 7, 3) := by decide +kernel
theorem dX12_operand_377 : decode cX12_operand 377 = .ok (.iconst 4, 1) := by decide +kernel
theorem dX12_operand_378 : decode cX12_operand 378 = .ok (.goto 78, 3) := by decide +kernel
theorem dX12_operand_381 : decode cX12_operand 381 = .ok (.aload_n 0, 1) := by decide +kernel
theorem dX12_operand_382 : decode cX12_operand 382 = .ok (.ldc2_w 286, 3) := by decide +kernel
theorem dX12_operand_385 : decode cX12_operand 385 = .ok (.invokevirtual 325, 3) := by decide +kernel
theorem dX12_operand_388 : decode cX12_operand 388 = .ok (.ifCond .eq 7, 3) := by decide +kernel
theorem dX12_operand_391 : decode cX12_operand 391 = .ok (.iconst 5, 1) := by decide +kernel
theorem dX12_operand_392 : decode cX12_operand 392 = .ok (.goto 64, 3) := by decide +kernel
theorem dX12_operand_395 : decode cX12_operand 395 = .ok (.aload_n 0, 1) := by decide +kernel
theorem dX12_operand_396 : decode cX12_operand 396 = .ok (.ldc2_w 288, 3) := by decide +kernel
theorem dX12_operand_399 : decode cX12_operand 399 = .ok (.invokevirtual 325, 3) := by decide +kernel
theorem dX12_operand_402 : decode cX12_operand 402 = .ok (.ifCond .eq 8, 3) := by decide +kernel
theorem dX12_operand_405 : decode cX12_operand 405 = .ok (.bipush 6, 2) := by decide +kernel
theorem dX12_operand_407 : decode cX12_operand 407 = .ok (.goto 49, 3) := by decide +kernel
theorem dX12_operand_410 : decode cX12_operand 410 = .ok (.aload_n 0, 1) := by decide +kernel
theorem dX12_operand_411 : decode cX12_operand 411 = .ok (.ldc2_w 260, 3) := by decide +kernel
theorem dX12_operand_414 : decode cX12_operand 414 = .ok (.invokevirtual 325, 3) := by decide +kernel
theorem dX12_operand_417 : decode cX12_operand 417 = .ok (.ifCond .eq 8, 3) := by decide +kernel
theorem dX12_operand_420 : decode cX12_operand 420 = .ok (.bipush 7, 2) := by decide +kernel
theorem dX12_operand_422 : decode cX12_operand 422 = .ok (.goto 34, 3) := by decide +kernel
theorem dX12_operand_425 : decode cX12_operand 425 = .ok (.aload_n 0, 1) := by decide +kernel
theorem dX12_operand_426 : decode cX12_operand 426 = .ok (.ldc2_w 270, 3) := by decide +kernel
theorem dX12_operand_429 : decode cX12_operand 429 = .ok (.invokevirtual 325, 3) := by decide +kernel
theorem dX12_operand_432 : decode cX12_operand 432 = .ok (.ifCond .eq 8, 3) := by decide +kernel
theorem dX12_operand_435 : decode cX12_operand 435 = .ok (.bipush 8, 2) := by decide +kernel
theorem dX12_operand_437 : decode cX12_operand 437 = .ok (.goto 19, 3) := by decide +kernel
theorem dX12_operand_440 : decode cX12_operand 440 = .ok (.aload_n 0, 1) := by decide +kernel
theorem dX12_operand_441 : decode cX12_operand 441 = .ok (.ldc2_w 290, 3) := by decide +kernel
theorem dX12_operand_444 : decode cX12_operand 444 = .ok (.invokevirtual 325, 3) := by decide +kernel
theorem dX12_operand_447 : decode cX12_operand 447 = .ok (.ifCond .eq 8, 3) := by decide +kernel
theorem dX12_operand_450 : decode cX12_operand 450 = .ok (.bipush 9, 2) := by decide +kernel
theorem dX12_operand_452 : decode cX12_operand 452 = .ok (.goto 4, 3) := by decide +kernel
theorem dX12_operand_455 : decode cX12_operand 455 = .ok (.iconst (-1), 1) := by decide +kernel
theorem dX12_operand_456 : decode cX12_operand 456 = .ok (.istore_n 3, 1) := by decide +kernel
theorem dX12_operand_457 : decode cX12_operand 457 = .ok (.iload_n 3, 1) := by decide +kernel
theorem dX12_operand_458 : decode cX12_operand 458 = .ok (.iconst 1, 1) := by decide +kernel
theorem dX12_operand_459 : decode cX12_operand 459 = .ok (.if_icmp .le 32, 3) := by decide +kernel
theorem dX12_operand_462 : decode cX12_operand 462 = .ok (.iload_n 3, 1) := by decide +kernel
theorem dX12_operand_463 : decode cX12_operand 463 = .ok (.bipush 8, 2) := by decide +kernel
theorem dX12_operand_465 : decode cX12_operand 465 = .ok (.if_icmp .lt 7, 3) := by decide +kernel
theorem dX12_operand_468 : decode cX12_operand 468 = .ok (.iconst 1, 1) := by decide +kernel
theorem dX12_operand_469 : decode cX12_operand 469 = .ok (.goto 4, 3) := by decide +kernel
theorem dX12_operand_472 : decode cX12_operand 472 = .ok (.iconst 0, 1) := by decide +kernel
theorem dX12_operand_473 : decode cX12_operand 473 = .ok (.aload_n 0, 1) := by decide +kernel
theorem dX12_operand_474 : decode cX12_operand 474 = .ok (.getfield 112, 3) := by decide +kernel
theorem dX12_operand_477 : decode cX12_operand 477 = .ok (.iconst 2, 1) := by decide +kernel
theorem dX12_operand_478 : decode cX12_operand 478 = .ok (.if_icmp .ne 7, 3) := by decide +kernel
theorem dX12_operand_481 : decode cX12_operand 481 = .ok (.iconst 1, 1) := by decide +kernel
theorem dX12_operand_482 : decode cX12_operand 482 = .ok (.goto 4, 3) := by decide +kernel
theorem dX12_operand_485 : decode cX12_operand 485 = .ok (.iconst 0, 1) := by decide +kernel
theorem dX12_operand_486 : decode cX12_operand 486 = .ok (.if_icmp .eq 5, 3) := by decide +kernel
theorem dX12_operand_489 : decode cX12_operand 489 = .ok (.iconst (-1), 1) := by decide +kernel
theorem dX12_operand_490 : decode cX12_operand 490 = .ok (.istore_n 3, 1) := by decide +kernel
theorem dX12_operand_491 : decode cX12_operand 491 = .ok (.iload_n 3, 1) := by decide +kernel
theorem dX12_operand_492 : decode cX12_operand 492 = .ok (.iconst 4, 1) := by decide +kernel
theorem dX12_operand_493 : decode cX12_operand 493 = .ok (.if_icmp .lt 18, 3) := by decide +kernel
theorem dX12_operand_496 : decode cX12_operand 496 = .ok (.iload_n 3, 1) := by decide +kernel
theorem dX12_operand_497 : decode cX12_operand 497 = .ok (.bipush 7, 2) := by decide +kernel
theorem dX12_operand_499 : decode cX12_operand 499 = .ok (.if_icmp .gt 12, 3) := by decide +kernel
theorem dX12_operand_502 : decode cX12_operand 502 = .ok (.aload_n 0, 1) := by decide +kernel
theorem dX12_operand_503 : decode cX12_operand 503 = .ok (.getfield 112, 3) := by decide +kernel
theorem dX12_operand_506 : decode cX12_operand 506 = .ok (.ifCond .eq 5, 3) := by decide +kernel
theorem dX12_operand_509 : decode cX12_operand 509 = .ok (.iconst (-1), 1) := by decide +kernel
theorem dX12_operand_510 : decode cX12_operand 510 = .ok (.istore_n 3, 1) := by decide +kernel
theorem dX12_operand_511 : decode cX12_operand 511 = .ok (.iload_n 3, 1) := by decide +kernel
theorem dX12_operand_512 : decode cX12_operand 512 = .ok (.iconst (-1), 1) := by decide +kernel
theorem dX12_operand_513 : decode cX12_operand 513 = .ok (.if_icmp .ne 12, 3) := by decide +kernel
theorem dX12_operand_516 : decode cX12_operand 516 = .ok (.aload_n 0, 1) := by decide +kernel
theorem dX12_operand_517 : decode cX12_operand 517 = .ok (.iconst 1, 1) := by decide +kernel
theorem dX12_operand_518 : decode cX12_operand 518 = .ok (.aload_n 0, 1) := by decide +kernel
theorem dX12_operand_519 : decode cX12_operand 519 = .ok (.getfield 23, 3) := by decide +kernel
theorem dX12_operand_522 : decode cX12_operand 522 = .ok (.invokevirtual 230, 3) := by decide +kernel
theorem dX12_operand_525 : decode cX12_operand 525 = .ok (.aload_n 0, 1) := by decide +kernel
theorem dX12_operand_526 : decode cX12_operand 526 = .ok (.getfield 36, 3) := by decide +kernel
theorem dX12_operand_529 : decode cX12_operand 529 = .ok (.ifCond .le 5, 3) := by decide +kernel
theorem dX12_operand_532 : decode cX12_operand 532 = .ok (.iconst 1, 1) := by decide +kernel
theorem dX12_operand_533 : decode cX12_operand 533 = .ok (.ireturn, 1) := by decide +kernel
theorem dX12_operand_534 : decode cX12_operand 534 = .ok (.aload_n 0, 1) := by decide +kernel
theorem dX12_operand_535 : decode cX12_operand 535 = .ok (.iload_n 3, 1) := by decide +kernel
theorem dX12_operand_536 : decode cX12_operand 536 = .ok (.aload_n 0, 1) := by decide +kernel
theorem dX12_operand_537 : decode cX12_operand 537 = .ok (.getfield 29, 3) := by decide +kernel
theorem dX12_operand_540 : decode cX12_operand 540 = .ok (.invokevirtual 316, 3) := by decide +kernel
theorem dX12_operand_543 : decode cX12_operand 543 = .ok (.aload_n 0, 1) := by decide +kernel
theorem dX12_operand_544 : decode cX12_operand 544 = .ok (.invokevirtual 247, 3) := by decide +kernel
theorem dX12_operand_547 : decode cX12_operand 547 = .ok (.iconst 1, 1) := by decide +kernel
theorem dX12_operand_548 : decode cX12_operand 548 = .ok (.ireturn, 1) := by decide +kernel
theorem dX12_goesOn_0 : decode cX12_goesOn 0 = .ok (.aload_n 0, 1) := by decide +kernel
theorem dX12_goesOn_1 : decode cX12_goesOn 1 = .ok (.invokevirtual 241, 3) := by decide +kernel
theorem dX12_goesOn_4 : decode cX12_goesOn 4 = .ok (.aload_n 0, 1) := by decide +kernel
theorem dX12_goesOn_5 : decode cX12_goesOn 5 = .ok (.getfield 36, 3) := by decide +kernel
theorem dX12_goesOn_8 : decode cX12_goesOn 8 = .ok (.ifCond .le 5, 3) := by decide +kernel
theorem dX12_goesOn_11 : decode cX12_goesOn 11 = .ok (.iconst 0, 1) := by decide +kernel
theorem dX12_goesOn_12 : decode cX12_goesOn 12 = .ok (.ireturn, 1) := by decide +kernel
theorem dX12_goesOn_13 : decode cX12_goesOn 13 = .ok (.aload_n 0, 1) := by decide +kernel
theorem dX12_goesOn_14 : decode cX12_goesOn 14 = .ok (.getfield 131, 3) := by decide +kernel
theorem dX12_goesOn_17 : decode cX12_goesOn 17 = .ok (.iconst 1, 1) := by decide +kernel
theorem dX12_goesOn_18 : decode cX12_goesOn 18 = .ok (.isub, 1) := by decide +kernel
theorem dX12_goesOn_19 : decode cX12_goesOn 19 = .ok (.istore_n 1, 1) := by decide +kernel
theorem dX12_goesOn_20 : decode cX12_goesOn 20 = .ok (.aload_n 0, 1) := by decide +kernel
theorem dX12_goesOn_21 : decode cX12_goesOn 21 = .ok (.getfield 115, 3) := by decide +kernel
theorem dX12_goesOn_24 : decode cX12_goesOn 24 = .ok (.iload_n 1, 1) := by decide +kernel
theorem dX12_goesOn_25 : decode cX12_goesOn 25 = .ok (.iaload, 1) := by decide +kernel
theorem dX12_goesOn_26 : decode cX12_goesOn 26 = .ok (.istore_n 2, 1) := by decide +kernel
theorem dX12_goesOn_27 : decode cX12_goesOn 27 = .ok (.iload_n 2, 1) := by decide +kernel
theorem dX12_goesOn_28 : decode cX12_goesOn 28 = .ok (.invokestatic 322, 3) := by decide +kernel
theorem dX12_goesOn_31 : decode cX12_goesOn 31 = .ok (.istore_n 3, 1) := by decide +kernel
theorem dX12_goesOn_32 : decode cX12_goesOn 32 = .ok (.aload_n 0, 1) := by decide +kernel
theorem dX12_goesOn_33 : decode cX12_goesOn 33 = .ok (.getfield 118, 3) := by decide +kernel
theorem dX12_goesOn_36 : decode cX12_goesOn 36 = .ok (.iload_n 1, 1) := by decide +kernel
theorem dX12_goesOn_37 : decode cX12_goesOn 37 = .ok (.iaload, 1) := by decide +kernel
theorem dX12_goesOn_38 : decode cX12_goesOn 38 = .ok (.iconst 2, 1) := by decide +kernel
theorem dX12_goesOn_39 : decode cX12_goesOn 39 = .ok (.if_icmp .ge 149, 3) := by decide +kernel
theorem dX12_goesOn_42 : decode cX12_goesOn 42 = .ok (.aload_n 0, 1) := by decide +kernel
theorem dX12_goesOn_43 : decode cX12_goesOn 43 = .ok (.bipush 43, 2) := by decide +kernel
theorem dX12_goesOn_45 : decode cX12_goesOn 45 = .ok (.invokevirtual 244, 3) := by decide +kernel
theorem dX12_goesOn_48 : decode cX12_goesOn 48 = .ok (.ifCond .ne 39, 3) := by decide +kernel
theorem dX12_goesOn_51 : decode cX12_goesOn 51 = .ok (.aload_n 0, 1) := by decide +kernel
theorem dX12_goesOn_52 : decode cX12_goesOn 52 = .ok (.bipush 45, 2) := by decide +kernel
theorem dX12_goesOn_54 : decode cX12_goesOn 54 = .ok (.invokevirtual 244, 3) := by decide +kernel
theorem dX12_goesOn_57 : decode cX12_goesOn 57 = .ok (.ifCond .ne 30, 3) := by decide +kernel
theorem dX12_goesOn_60 : decode cX12_goesOn 60 = .ok (.aload_n 0, 1) := by decide +kernel
theorem dX12_goesOn_61 : decode cX12_goesOn 61 = .ok (.bipush 42, 2) := by decide +kernel
theorem dX12_goesOn_63 : decode cX12_goesOn 63 = .ok (.invokevirtual 244, 3) := by decide +kernel
theorem dX12_goesOn_66 : decode cX12_goesOn 66 = .ok (.ifCond .ne 21, 3) := by decide +kernel
theorem dX12_goesOn_69 : decode cX12_goesOn 69 = .ok (.aload_n 0, 1) := by decide +kernel
theorem dX12_goesOn_70 : decode cX12_goesOn 70 = .ok (.bipush 47, 2) := by decide +kernel
theorem dX12_goesOn_72 : decode cX12_goesOn 72 = .ok (.invokevirtual 244, 3) := by decide +kernel
theorem dX12_goesOn_75 : decode cX12_goesOn 75 = .ok (.ifCond .ne 12, 3) := by decide +kernel
theorem dX12_goesOn_78 : decode cX12_goesOn 78 = .ok (.aload_n 0, 1) := by decide +kernel
theorem dX12_goesOn_79 : decode cX12_goesOn 79 = .ok (.bipush 37, 2) := by decide +kernel
theorem dX12_goesOn_81 : decode cX12_goesOn 81 = .ok (.invokevirtual 244, 3) := by decide +kernel
theorem dX12_goesOn_84 : decode cX12_goesOn 84 = .ok (.ifCond .eq 104, 3) := by decide +kernel
theorem dX12_goesOn_87 : decode cX12_goesOn 87 = .ok (.aload_n 0, 1) := by decide +kernel
theorem dX12_goesOn_88 : decode cX12_goesOn 88 = .ok (.aload_n 0, 1) := by decide +kernel
theorem dX12_goesOn_89 : decode cX12_goesOn 89 = .ok (.bipush 43, 2) := by decide +kernel
theorem dX12_goesOn_91 : decode cX12_goesOn 91 = .ok (.invokevirtual 244, 3) := by decide +kernel
theorem dX12_goesOn_94 : decode cX12_goesOn 94 = .ok (.ifCond .ne 12, 3) := by decide +kernel
theorem dX12_goesOn_97 : decode cX12_goesOn 97 = .ok (.aload_n 0, 1) := by decide +kernel
theorem dX12_goesOn_98 : decode cX12_goesOn 98 = .ok (.bipush 45, 2) := by decide +kernel
theorem dX12_goesOn_100 : decode cX12_goesOn 100 = .ok (.invokevirtual 244, 3) := by decide +kernel
theorem dX12_goesOn_103 : decode cX12_goesOn 103 = .ok (.ifCond .eq 7, 3) := by decide +kernel
theorem dX12_goesOn_106 : decode cX12_goesOn 106 = .ok (.iconst 5, 1) := by decide +kernel
theorem dX12_goesOn_107 : decode cX12_goesOn 107 = .ok (.goto 5, 3) := by decide +kernel
theorem dX12_goesOn_110 : decode cX12_goesOn 110 = .ok (.bipush 6, 2) := by decide +kernel
theorem dX12_goesOn_112 : decode cX12_goesOn 112 = .ok (.invokevirtual 335, 3) := by decide +kernel
theorem dX12_goesOn_115 : decode cX12_goesOn 115 = .ok (.aload_n 0, 1) := by decide +kernel
theorem dX12_goesOn_116 : decode cX12_goesOn 116 = .ok (.aload_n 0, 1) := by decide +kernel
theorem dX12_goesOn_117 : decode cX12_goesOn 117 = .ok (.bipush 43, 2) := by decide +kernel
theorem dX12_goesOn_119 : decode cX12_goesOn 119 = .ok (.invokevirtual 244, 3) := by decide +kernel
theorem dX12_goesOn_122 : decode cX12_goesOn 122 = .ok (.ifCond .eq 8, 3) := by decide +kernel
theorem dX12_goesOn_125 : decode cX12_goesOn 125 = .ok (.bipush 31, 2) := by decide +kernel
theorem dX12_goesOn_127 : decode cX12_goesOn 127 = .ok (.goto 47, 3) := by decide +kernel
theorem dX12_goesOn_130 : decode cX12_goesOn 130 = .ok (.aload_n 0, 1) := by decide +kernel
theorem dX12_goesOn_131 : decode cX12_goesOn 131 = .ok (.bipush 45, 2) := by decide +kernel
theorem dX12_goesOn_133 : decode cX12_goesOn 133 = .ok (.invokevirtual 244, 3) := by decide +kernel
theorem dX12_goesOn_136 : decode cX12_goesOn 136 = .ok (.ifCond .eq 8, 3) := by decide +kernel
theorem dX12_goesOn_139 : decode cX12_goesOn 139 = .ok (.bipush 32, 2) := by decide +kernel
theorem dX12_goesOn_141 : decode cX12_goesOn 141 = .ok (.goto 33, 3) := by decide +kernel
theorem dX12_goesOn_144 : decode cX12_goesOn 144 = .ok (.aload_n 0, 1) := by decide +kernel
theorem dX12_goesOn_145 : decode cX12_goesOn 145 = .ok (.bipush 42, 2) := by decide +kernel
theorem dX12_goesOn_147 : decode cX12_goesOn 147 = .ok (.invokevirtual 244, 3) := by decide +kernel
theorem dX12_goesOn_150 : decode cX12_goesOn 150 = .ok (.ifCond .eq 8, 3) := by decide +kernel
theorem dX12_goesOn_153 : decode cX12_goesOn 153 = .ok (.bipush 33, 2) := by decide +kernel
theorem dX12_goesOn_155 : decode cX12_goesOn 155 = .ok (.goto 19, 3) := by decide +kernel
theorem dX12_goesOn_158 : decode cX12_goesOn 158 = .ok (.aload_n 0, 1) := by decide +kernel
theorem dX12_goesOn_159 : decode cX12_goesOn 159 = .ok (.bipush 47, 2) := by decide +kernel
theorem dX12_goesOn_161 : decode cX12_goesOn 161 = .ok (.invokevirtual 244, 3) := by decide +kernel
theorem dX12_goesOn_164 : decode cX12_goesOn 164 = .ok (.ifCond .eq 8, 3) := by decide +kernel
theorem dX12_goesOn_167 : decode cX12_goesOn 167 = .ok (.bipush 34, 2) := by decide +kernel
theorem dX12_goesOn_169 : decode cX12_goesOn 169 = .ok (.goto 5, 3) := by decide +kernel
theorem dX12_goesOn_172 : decode cX12_goesOn 172 = .ok (.bipush 35, 2) := by decide +kernel
theorem dX12_goesOn_174 : decode cX12_goesOn 174 = .ok (.invokevirtual 329, 3) := by decide +kernel
theorem dX12_goesOn_177 : decode cX12_goesOn 177 = .ok (.aload_n 0, 1) := by decide +kernel
theorem dX12_goesOn_178 : decode cX12_goesOn 178 = .ok (.invokevirtual 247, 3) := by decide +kernel
theorem dX12_goesOn_181 : decode cX12_goesOn 181 = .ok (.aload_n 0, 1) := by decide +kernel
theorem dX12_goesOn_182 : decode cX12_goesOn 182 = .ok (.iconst 0, 1) := by decide +kernel
theorem dX12_goesOn_183 : decode cX12_goesOn 183 = .ok (.putfield 143, 3) := by decide +kernel
theorem dX12_goesOn_186 : decode cX12_goesOn 186 = .ok (.iconst 1, 1) := by decide +kernel
theorem dX12_goesOn_187 : decode cX12_goesOn 187 = .ok (.ireturn, 1) := by decide +kernel
theorem dX12_goesOn_188 : decode cX12_goesOn 188 = .ok (.iload_n 3, 1) := by decide +kernel
theorem dX12_goesOn_189 : decode cX12_goesOn 189 = .ok (.ifCond .eq 96, 3) := by decide +kernel
theorem dX12_goesOn_192 : decode cX12_goesOn 192 = .ok (.aload_n 0, 1) := by decide +kernel
theorem dX12_goesOn_193 : decode cX12_goesOn 193 = .ok (.getfield 118, 3) := by decide +kernel
theorem dX12_goesOn_196 : decode cX12_goesOn 196 = .ok (.iload_n 1, 1) := by decide +kernel
theorem dX12_goesOn_197 : decode cX12_goesOn 197 = .ok (.iaload, 1) := by decide +kernel
theorem dX12_goesOn_198 : decode cX12_goesOn 198 = .ok (.ifCond .ne 87, 3) := by decide +kernel
theorem dX12_goesOn_201 : decode cX12_goesOn 201 = .ok (.aload_n 0, 1) := by decide +kernel
theorem dX12_goesOn_202 : decode cX12_goesOn 202 = .ok (.bipush 60, 2) := by decide +kernel
theorem dX12_goesOn_204 : decode cX12_goesOn 204 = .ok (.invokevirtual 244, 3) := by decide +kernel
theorem dX12_goesOn_207 : decode cX12_goesOn 207 = .ok (.ifCond .ne 21, 3) := by decide +kernel
theorem dX12_goesOn_210 : decode cX12_goesOn 210 = .ok (.aload_n 0, 1) := by decide +kernel
theorem dX12_goesOn_211 : decode cX12_goesOn 211 = .ok (.bipush 62, 2) := by decide +kernel
theorem dX12_goesOn_213 : decode cX12_goesOn 213 = .ok (.invokevirtual 244, 3) := by decide +kernel
theorem dX12_goesOn_216 : decode cX12_goesOn 216 = .ok (.ifCond .ne 12, 3) := by decide +kernel
theorem dX12_goesOn_219 : decode cX12_goesOn 219 = .ok (.aload_n 0, 1) := by decide +kernel
theorem dX12_goesOn_220 : decode cX12_goesOn 220 = .ok (.bipush 61, 2) := by decide +kernel
theorem dX12_goesOn_222 : decode cX12_goesOn 222 = .ok (.invokevirtual 244, 3) := by decide +kernel
theorem dX12_goesOn_225 : decode cX12_goesOn 225 = .ok (.ifCond .eq 60, 3) := by decide +kernel
theorem dX12_goesOn_228 : decode cX12_goesOn 228 = .ok (.aload_n 0, 1) := by decide +kernel
theorem dX12_goesOn_229 : decode cX12_goesOn 229 = .ok (.iconst 5, 1) := by decide +kernel
theorem dX12_goesOn_230 : decode cX12_goesOn 230 = .ok (.invokevirtual 335, 3) := by decide +kernel
theorem dX12_goesOn_233 : decode cX12_goesOn 233 = .ok (.aload_n 0, 1) := by decide +kernel
theorem dX12_goesOn_234 : decode cX12_goesOn 234 = .ok (.aload_n 0, 1) := by decide +kernel
theorem dX12_goesOn_235 : decode cX12_goesOn 235 = .ok (.bipush 60, 2) := by decide +kernel
theorem dX12_goesOn_237 : decode cX12_goesOn 237 = .ok (.invokevirtual 244, 3) := by decide +kernel
theorem dX12_goesOn_240 : decode cX12_goesOn 240 = .ok (.ifCond .eq 8, 3) := by decide +kernel
theorem dX12_goesOn_243 : decode cX12_goesOn 243 = .ok (.bipush 38, 2) := by decide +kernel
theorem dX12_goesOn_245 : decode cX12_goesOn 245 = .ok (.goto 19, 3) := by decide +kernel
theorem dX12_goesOn_248 : decode cX12_goesOn 248 = .ok (.aload_n 0, 1) := by decide +kernel
theorem dX12_goesOn_249 : decode cX12_goesOn 249 = .ok (.bipush 62, 2) := by decide +kernel
theorem dX12_goesOn_251 : decode cX12_goesOn 251 = .ok (.invokevirtual 244, 3) := by decide +kernel
theorem dX12_goesOn_254 : decode cX12_goesOn 254 = .ok (.ifCond .eq 8, 3) := by decide +kernel
theorem dX12_goesOn_257 : decode cX12_goesOn 257 = .ok (.bipush 39, 2) := by decide +kernel
theorem dX12_goesOn_259 : decode cX12_goesOn 259 = .ok (.goto 5, 3) := by decide +kernel
theorem dX12_goesOn_262 : decode cX12_goesOn 262 = .ok (.bipush 40, 2) := by decide +kernel
theorem dX12_goesOn_264 : decode cX12_goesOn 264 = .ok (.invokevirtual 329, 3) := by decide +kernel
theorem dX12_goesOn_267 : decode cX12_goesOn 267 = .ok (.aload_n 0, 1) := by decide +kernel
theorem dX12_goesOn_268 : decode cX12_goesOn 268 = .ok (.getfield 118, 3) := by decide +kernel
theorem dX12_goesOn_271 : decode cX12_goesOn 271 = .ok (.iload_n 1, 1) := by decide +kernel
theorem dX12_goesOn_272 : decode cX12_goesOn 272 = .ok (.iconst 1, 1) := by decide +kernel
theorem dX12_goesOn_273 : decode cX12_goesOn 273 = .ok (.iastore, 1) := by decide +kernel
theorem dX12_goesOn_274 : decode cX12_goesOn 274 = .ok (.aload_n 0, 1) := by decide +kernel
theorem dX12_goesOn_275 : decode cX12_goesOn 275 = .ok (.invokevirtual 247, 3) := by decide +kernel
theorem dX12_goesOn_278 : decode cX12_goesOn 278 = .ok (.aload_n 0, 1) := by decide +kernel
theorem dX12_goesOn_279 : decode cX12_goesOn 279 = .ok (.iconst 0, 1) := by decide +kernel
theorem dX12_goesOn_280 : decode cX12_goesOn 280 = .ok (.putfield 143, 3) := by decide +kernel
theorem dX12_goesOn_283 : decode cX12_goesOn 283 = .ok (.iconst 1, 1) := by decide +kernel
theorem dX12_goesOn_284 : decode cX12_goesOn 284 = .ok (.ireturn, 1) := by decide +kernel
theorem dX12_goesOn_285 : decode cX12_goesOn 285 = .ok (.iload_n 3, 1) := by decide +kernel
theorem dX12_goesOn_286 : decode cX12_goesOn 286 = .ok (.ifCond .eq 114, 3) := by decide +kernel
theorem dX12_goesOn_289 : decode cX12_goesOn 289 = .ok (.aload_n 0, 1) := by decide +kernel
theorem dX12_goesOn_290 : decode cX12_goesOn 290 = .ok (.ldc2_w 296, 3) := by decide +kernel
theorem dX12_goesOn_293 : decode cX12_goesOn 293 = .ok (.invokevirtual 325, 3) := by decide +kernel
theorem dX12_goesOn_296 : decode cX12_goesOn 296 = .ok (.ifCond .ne 13, 3) := by decide +kernel
theorem dX12_goesOn_299 : decode cX12_goesOn 299 = .ok (.aload_n 0, 1) := by decide +kernel
theorem dX12_goesOn_300 : decode cX12_goesOn 300 = .ok (.ldc2_w 294, 3) := by decide +kernel
theorem dX12_goesOn_303 : decode cX12_goesOn 303 = .ok (.invokevirtual 325, 3) := by decide +kernel
theorem dX12_goesOn_306 : decode cX12_goesOn 306 = .ok (.ifCond .eq 94, 3) := by decide +kernel
theorem dX12_goesOn_309 : decode cX12_goesOn 309 = .ok (.aload_n 0, 1) := by decide +kernel
theorem dX12_goesOn_310 : decode cX12_goesOn 310 = .ok (.getfield 118, 3) := by decide +kernel
theorem dX12_goesOn_313 : decode cX12_goesOn 313 = .ok (.iload_n 1, 1) := by decide +kernel
theorem dX12_goesOn_314 : decode cX12_goesOn 314 = .ok (.iaload, 1) := by decide +kernel
theorem dX12_goesOn_315 : decode cX12_goesOn 315 = .ok (.ifCond .ne 12, 3) := by decide +kernel
theorem dX12_goesOn_318 : decode cX12_goesOn 318 = .ok (.aload_n 0, 1) := by decide +kernel
theorem dX12_goesOn_319 : decode cX12_goesOn 319 = .ok (.iconst 1, 1) := by decide +kernel
theorem dX12_goesOn_320 : decode cX12_goesOn 320 = .ok (.aload_n 0, 1) := by decide +kernel
theorem dX12_goesOn_321 : decode cX12_goesOn 321 = .ok (.getfield 23, 3) := by decide +kernel
theorem dX12_goesOn_324 : decode cX12_goesOn 324 = .ok (.invokevirtual 230, 3) := by decide +kernel
theorem dX12_goesOn_327 : decode cX12_goesOn 327 = .ok (.aload_n 0, 1) := by decide +kernel
theorem dX12_goesOn_328 : decode cX12_goesOn 328 = .ok (.getfield 36, 3) := by decide +kernel
theorem dX12_goesOn_331 : decode cX12_goesOn 331 = .ok (.ifCond .le 5, 3) := by decide +kernel
theorem dX12_goesOn_334 : decode cX12_goesOn 334 = .ok (.iconst 0, 1) := by decide +kernel
theorem dX12_goesOn_335 : decode cX12_goesOn 335 = .ok (.ireturn, 1) := by decide +kernel
theorem dX12_goesOn_336 : decode cX12_goesOn 336 = .ok (.aload_n 0, 1) := by decide +kernel
theorem dX12_goesOn_337 : decode cX12_goesOn 337 = .ok (.ldc2_w 296, 3) := by decide +kernel
theorem dX12_goesOn_340 : decode cX12_goesOn 340 = .ok (.invokevirtual 325, 3) := by decide +kernel
theorem dX12_goesOn_343 : decode cX12_goesOn 343 = .ok (.istore 4, 2) := by decide +kernel
theorem dX12_goesOn_345 : decode cX12_goesOn 345 = .ok (.aload_n 0, 1) := by decide +kernel
theorem dX12_goesOn_346 : decode cX12_goesOn 346 = .ok (.iload 4, 2) := by decide +kernel
theorem dX12_goesOn_348 : decode cX12_goesOn 348 = .ok (.ifCond .eq 7, 3) := by decide +kernel
theorem dX12_goesOn_351 : decode cX12_goesOn 351 = .ok (.iconst 2, 1) := by decide +kernel
theorem dX12_goesOn_352 : decode cX12_goesOn 352 = .ok (.goto 4, 3) := by decide +kernel
theorem dX12_goesOn_355 : decode cX12_goesOn 355 = .ok (.iconst 1, 1) := by decide +kernel
theorem dX12_goesOn_356 : decode cX12_goesOn 356 = .ok (.invokevirtual 335, 3) := by decide +kernel
theorem dX12_goesOn_359 : decode cX12_goesOn 359 = .ok (.aload_n 0, 1) := by decide +kernel
theorem dX12_goesOn_360 : decode cX12_goesOn 360 = .ok (.iload 4, 2) := by decide +kernel
theorem dX12_goesOn_362 : decode cX12_goesOn 362 = .ok (.ifCond .eq 8, 3) := by decide +kernel
theorem dX12_goesOn_365 : decode cX12_goesOn 365 = .ok (.bipush 41, 2) := by decide +kernel
theorem dX12_goesOn_367 : decode cX12_goesOn 367 = .ok (.goto 5, 3) := by decide +kernel
theorem dX12_goesOn_370 : decode cX12_goesOn 370 = .ok (.bipush 42, 2) := by decide +kernel
theorem dX12_goesOn_372 : decode cX12_goesOn 372 = .ok (.invokevirtual 329, 3) := by decide +kernel
theorem dX12_goesOn_375 : decode cX12_goesOn 375 = .ok (.aload_n 0, 1) := by decide +kernel
theorem dX12_goesOn_376 : decode cX12_goesOn 376 = .ok (.getfield 118, 3) := by decide +kernel
theorem dX12_goesOn_379 : decode cX12_goesOn 379 = .ok (.iload_n 1, 1) := by decide +kernel
theorem dX12_goesOn_380 : decode cX12_goesOn 380 = .ok (.iconst 0, 1) := by decide +kernel
theorem dX12_goesOn_381 : decode cX12_goesOn 381 = .ok (.iastore, 1) := by decide +kernel
theorem dX12_goesOn_382 : decode cX12_goesOn 382 = .ok (.aload_n 0, 1) := by decide +kernel
theorem dX12_goesOn_383 : decode cX12_goesOn 383 = .ok (.getfield 121, 3) := by decide +kernel
theorem dX12_goesOn_386 : decode cX12_goesOn 386 = .ok (.iload_n 1, 1) := by decide +kernel
theorem dX12_goesOn_387 : decode cX12_goesOn 387 = .ok (.iconst 1, 1) := by decide +kernel
theorem dX12_goesOn_388 : decode cX12_goesOn 388 = .ok (.bastore, 1) := by decide +kernel
theorem dX12_goesOn_389 : decode cX12_goesOn 389 = .ok (.aload_n 0, 1) := by decide +kernel
theorem dX12_goesOn_390 : decode cX12_goesOn 390 = .ok (.invokevirtual 247, 3) := by decide +kernel
theorem dX12_goesOn_393 : decode cX12_goesOn 393 = .ok (.aload_n 0, 1) := by decide +kernel
theorem dX12_goesOn_394 : decode cX12_goesOn 394 = .ok (.iconst 0, 1) := by decide +kernel
theorem dX12_goesOn_395 : decode cX12_goesOn 395 = .ok (.putfield 143, 3) := by decide +kernel
theorem dX12_goesOn_398 : decode cX12_goesOn 398 = .ok (.iconst 1, 1) := by decide +kernel
theorem dX12_goesOn_399 : decode cX12_goesOn 399 = .ok (.ireturn, 1) := by decide +kernel
theorem dX12_goesOn_400 : decode cX12_goesOn 400 = .ok (.iload_n 3, 1) := by decide +kernel
theorem dX12_goesOn_401 : decode cX12_goesOn 401 = .ok (.ifCond .eq 21, 3) := by decide +kernel
theorem dX12_goesOn_404 : decode cX12_goesOn 404 = .ok (.aload_n 0, 1) := by decide +kernel
theorem dX12_goesOn_405 : decode cX12_goesOn 405 = .ok (.getfield 118, 3) := by decide +kernel
theorem dX12_goesOn_408 : decode cX12_goesOn 408 = .ok (.iload_n 1, 1) := by decide +kernel
theorem dX12_goesOn_409 : decode cX12_goesOn 409 = .ok (.iaload, 1) := by decide +kernel
theorem dX12_goesOn_410 : decode cX12_goesOn 410 = .ok (.ifCond .ne 12, 3) := by decide +kernel
theorem dX12_goesOn_413 : decode cX12_goesOn 413 = .ok (.aload_n 0, 1) := by decide +kernel
theorem dX12_goesOn_414 : decode cX12_goesOn 414 = .ok (.iconst 1, 1) := by decide +kernel
theorem dX12_goesOn_415 : decode cX12_goesOn 415 = .ok (.aload_n 0, 1) := by decide +kernel
theorem dX12_goesOn_416 : decode cX12_goesOn 416 = .ok (.getfield 23, 3) := by decide +kernel
theorem dX12_goesOn_419 : decode cX12_goesOn 419 = .ok (.invokevirtual 230, 3) := by decide +kernel
theorem dX12_goesOn_422 : decode cX12_goesOn 422 = .ok (.iload_n 2, 1) := by decide +kernel
theorem dX12_goesOn_423 : decode cX12_goesOn 423 = .ok (.iconst 2, 1) := by decide +kernel
theorem dX12_goesOn_424 : decode cX12_goesOn 424 = .ok (.if_icmp .ge 17, 3) := by decide +kernel
theorem dX12_goesOn_427 : decode cX12_goesOn 427 = .ok (.aload_n 0, 1) := by decide +kernel
theorem dX12_goesOn_428 : decode cX12_goesOn 428 = .ok (.getfield 36, 3) := by decide +kernel
theorem dX12_goesOn_431 : decode cX12_goesOn 431 = .ok (.ifCond .ne 8, 3) := by decide +kernel
theorem dX12_goesOn_434 : decode cX12_goesOn 434 = .ok (.aload_n 0, 1) := by decide +kernel
theorem dX12_goesOn_435 : decode cX12_goesOn 435 = .ok (.iconst 1, 1) := by decide +kernel
theorem dX12_goesOn_436 : decode cX12_goesOn 436 = .ok (.invokevirtual 335, 3) := by decide +kernel
theorem dX12_goesOn_439 : decode cX12_goesOn 439 = .ok (.iconst 0, 1) := by decide +kernel
theorem dX12_goesOn_440 : decode cX12_goesOn 440 = .ok (.ireturn, 1) := by decide +kernel
theorem dX12_goesOn_441 : decode cX12_goesOn 441 = .ok (.iload_n 2, 1) := by decide +kernel
theorem dX12_goesOn_442 : decode cX12_goesOn 442 = .ok (.iconst 3, 1) := by decide +kernel
theorem dX12_goesOn_443 : decode cX12_goesOn 443 = .ok (.if_icmp .eq 9, 3) := by decide +kernel
theorem dX12_goesOn_446 : decode cX12_goesOn 446 = .ok (.iload_n 2, 1) := by decide +kernel
theorem dX12_goesOn_447 : decode cX12_goesOn 447 = .ok (.bipush 6, 2) := by decide +kernel
theorem dX12_goesOn_449 : decode cX12_goesOn 449 = .ok (.if_icmp .ne 69, 3) := by decide +kernel
theorem dX12_goesOn_452 : decode cX12_goesOn 452 = .ok (.aload_n 0, 1) := by decide +kernel
theorem dX12_goesOn_453 : decode cX12_goesOn 453 = .ok (.bipush 44, 2) := by decide +kernel
theorem dX12_goesOn_455 : decode cX12_goesOn 455 = .ok (.invokevirtual 244, 3) := by decide +kernel
theorem dX12_goesOn_458 : decode cX12_goesOn 458 = .ok (.ifCond .ne 12, 3) := by decide +kernel
theorem dX12_goesOn_461 : decode cX12_goesOn 461 = .ok (.aload_n 0, 1) := by decide +kernel
theorem dX12_goesOn_462 : decode cX12_goesOn 462 = .ok (.iconst 1, 1) := by decide +kernel
theorem dX12_goesOn_463 : decode cX12_goesOn 463 = .ok (.aload_n 0, 1) := by decide +kernel
theorem dX12_goesOn_464 : decode cX12_goesOn 464 = .ok (.getfield 23, 3) := by decide +kernel
theorem dX12_goesOn_467 : decode cX12_goesOn 467 = .ok (.invokevirtual 230, 3) := by decide +kernel
theorem dX12_goesOn_470 : decode cX12_goesOn 470 = .ok (.aload_n 0, 1) := by decide +kernel
theorem dX12_goesOn_471 : decode cX12_goesOn 471 = .ok (.getfield 36, 3) := by decide +kernel
theorem dX12_goesOn_474 : decode cX12_goesOn 474 = .ok (.ifCond .le 5, 3) := by decide +kernel
theorem dX12_goesOn_477 : decode cX12_goesOn 477 = .ok (.iconst 0, 1) := by decide +kernel
theorem dX12_goesOn_478 : decode cX12_goesOn 478 = .ok (.ireturn, 1) := by decide +kernel
theorem dX12_goesOn_479 : decode cX12_goesOn 479 = .ok (.aload_n 0, 1) := by decide +kernel
theorem dX12_goesOn_480 : decode cX12_goesOn 480 = .ok (.iconst 1, 1) := by decide +kernel
theorem dX12_goesOn_481 : decode cX12_goesOn 481 = .ok (.invokevirtual 335, 3) := by decide +kernel
theorem dX12_goesOn_484 : decode cX12_goesOn 484 = .ok (.aload_n 0, 1) := by decide +kernel
theorem dX12_goesOn_485 : decode cX12_goesOn 485 = .ok (.getfield 115, 3) := by decide +kernel
theorem dX12_goesOn_488 : decode cX12_goesOn 488 = .ok (.iload_n 1, 1) := by decide +kernel
theorem dX12_goesOn_489 : decode cX12_goesOn 489 = .ok (.iload_n 2, 1) := by decide +kernel
theorem dX12_goesOn_490 : decode cX12_goesOn 490 = .ok (.iconst 3, 1) := by decide +kernel
theorem dX12_goesOn_491 : decode cX12_goesOn 491 = .ok (.if_icmp .ne 7, 3) := by decide +kernel
theorem dX12_goesOn_494 : decode cX12_goesOn 494 = .ok (.iconst 4, 1) := by decide +kernel
theorem dX12_goesOn_495 : decode cX12_goesOn 495 = .ok (.goto 4, 3) := by decide +kernel
theorem dX12_goesOn_498 : decode cX12_goesOn 498 = .ok (.iconst 3, 1) := by decide +kernel
theorem dX12_goesOn_499 : decode cX12_goesOn 499 = .ok (.iastore, 1) := by decide +kernel
theorem dX12_goesOn_500 : decode cX12_goesOn 500 = .ok (.aload_n 0, 1) := by decide +kernel
theorem dX12_goesOn_501 : decode cX12_goesOn 501 = .ok (.getfield 118, 3) := by decide +kernel
theorem dX12_goesOn_504 : decode cX12_goesOn 504 = .ok (.iload_n 1, 1) := by decide +kernel
theorem dX12_goesOn_505 : decode cX12_goesOn 505 = .ok (.iconst 0, 1) := by decide +kernel
theorem dX12_goesOn_506 : decode cX12_goesOn 506 = .ok (.iastore, 1) := by decide +kernel
theorem dX12_goesOn_507 : decode cX12_goesOn 507 = .ok (.aload_n 0, 1) := by decide +kernel
theorem dX12_goesOn_508 : decode cX12_goesOn 508 = .ok (.invokevirtual 247, 3) := by decide +kernel
theorem dX12_goesOn_511 : decode cX12_goesOn 511 = .ok (.aload_n 0, 1) := by decide +kernel
theorem dX12_goesOn_512 : decode cX12_goesOn 512 = .ok (.iconst 0, 1) := by decide +kernel
theorem dX12_goesOn_513 : decode cX12_goesOn 513 = .ok (.putfield 143, 3) := by decide +kernel
theorem dX12_goesOn_516 : decode cX12_goesOn 516 = .ok (.iconst 1, 1) := by decide +kernel
theorem dX12_goesOn_517 : decode cX12_goesOn 517 = .ok (.ireturn, 1) := by decide +kernel
theorem dX12_goesOn_518 : decode cX12_goesOn 518 = .ok (.aload_n 0, 1) := by decide +kernel
theorem dX12_goesOn_519 : decode cX12_goesOn 519 = .ok (.iload_n 2, 1) := by decide +kernel
theorem dX12_goesOn_520 : decode cX12_goesOn 520 = .ok (.iconst 5, 1) := by decide +kernel
theorem dX12_goesOn_521 : decode cX12_goesOn 521 = .ok (.if_icmp .ne 8, 3) := by decide +kernel
theorem dX12_goesOn_524 : decode cX12_goesOn 524 = .ok (.bipush 93, 2) := by decide +kernel
theorem dX12_goesOn_526 : decode cX12_goesOn 526 = .ok (.goto 5, 3) := by decide +kernel
theorem dX12_goesOn_529 : decode cX12_goesOn 529 = .ok (.bipush 41, 2) := by decide +kernel
theorem dX12_goesOn_531 : decode cX12_goesOn 531 = .ok (.invokevirtual 244, 3) := by decide +kernel
theorem dX12_goesOn_534 : decode cX12_goesOn 534 = .ok (.ifCond .ne 12, 3) := by decide +kernel
theorem dX12_goesOn_537 : decode cX12_goesOn 537 = .ok (.aload_n 0, 1) := by decide +kernel
theorem dX12_goesOn_538 : decode cX12_goesOn 538 = .ok (.iconst 1, 1) := by decide +kernel
theorem dX12_goesOn_539 : decode cX12_goesOn 539 = .ok (.aload_n 0, 1) := by decide +kernel
theorem dX12_goesOn_540 : decode cX12_goesOn 540 = .ok (.getfield 23, 3) := by decide +kernel
theorem dX12_goesOn_543 : decode cX12_goesOn 543 = .ok (.invokevirtual 230, 3) := by decide +kernel
theorem dX12_goesOn_546 : decode cX12_goesOn 546 = .ok (.aload_n 0, 1) := by decide +kernel
theorem dX12_goesOn_547 : decode cX12_goesOn 547 = .ok (.getfield 36, 3) := by decide +kernel
theorem dX12_goesOn_550 : decode cX12_goesOn 550 = .ok (.ifCond .le 5, 3) := by decide +kernel
theorem dX12_goesOn_553 : decode cX12_goesOn 553 = .ok (.iconst 0, 1) := by decide +kernel
theorem dX12_goesOn_554 : decode cX12_goesOn 554 = .ok (.ireturn, 1) := by decide +kernel
theorem dX12_goesOn_555 : decode cX12_goesOn 555 = .ok (.aload_n 0, 1) := by decide +kernel
theorem dX12_goesOn_556 : decode cX12_goesOn 556 = .ok (.iconst 1, 1) := by decide +kernel
theorem dX12_goesOn_557 : decode cX12_goesOn 557 = .ok (.invokevirtual 335, 3) := by decide +kernel
theorem dX12_goesOn_560 : decode cX12_goesOn 560 = .ok (.aload_n 0, 1) := by decide +kernel
theorem dX12_goesOn_561 : decode cX12_goesOn 561 = .ok (.dup, 1) := by decide +kernel
theorem dX12_goesOn_562 : decode cX12_goesOn 562 = .ok (.getfield 131, 3) := by decide +kernel
theorem dX12_goesOn_565 : decode cX12_goesOn 565 = .ok (.iconst 1, 1) := by decide +kernel
theorem dX12_goesOn_566 : decode cX12_goesOn 566 = .ok (.isub, 1) := by decide +kernel
theorem dX12_goesOn_567 : decode cX12_goesOn 567 = .ok (.putfield 131, 3) := by decide +kernel
theorem dX12_goesOn_570 : decode cX12_goesOn 570 = .ok (.aload_n 0, 1) := by decide +kernel
theorem dX12_goesOn_571 : decode cX12_goesOn 571 = .ok (.dup, 1) := by decide +kernel
theorem dX12_goesOn_572 : decode cX12_goesOn 572 = .ok (.getfield 134, 3) := by decide +kernel
theorem dX12_goesOn_575 : decode cX12_goesOn 575 = .ok (.iconst 1, 1) := by decide +kernel
theorem dX12_goesOn_576 : decode cX12_goesOn 576 = .ok (.isub, 1) := by decide +kernel
theorem dX12_goesOn_577 : decode cX12_goesOn 577 = .ok (.putfield 134, 3) := by decide +kernel
theorem dX12_goesOn_580 : decode cX12_goesOn 580 = .ok (.iload_n 2, 1) := by decide +kernel
theorem dX12_goesOn_581 : decode cX12_goesOn 581 = .ok (.iconst 4, 1) := by decide +kernel
theorem dX12_goesOn_582 : decode cX12_goesOn 582 = .ok (.if_icmp .ne 14, 3) := by decide +kernel
theorem dX12_goesOn_585 : decode cX12_goesOn 585 = .ok (.aload_n 0, 1) := by decide +kernel
theorem dX12_goesOn_586 : decode cX12_goesOn 586 = .ok (.aload_n 0, 1) := by decide +kernel
theorem dX12_goesOn_587 : decode cX12_goesOn 587 = .ok (.getfield 125, 3) := by decide +kernel
theorem dX12_goesOn_590 : decode cX12_goesOn 590 = .ok (.iload_n 1, 1) := by decide +kernel
theorem dX12_goesOn_591 : decode cX12_goesOn 591 = .ok (.iaload, 1) := by decide +kernel
theorem dX12_goesOn_592 : decode cX12_goesOn 592 = .ok (.iconst 0, 1) := by decide +kernel
theorem dX12_goesOn_593 : decode cX12_goesOn 593 = .ok (.invokevirtual 316, 3) := by decide +kernel
theorem dX12_goesOn_596 : decode cX12_goesOn 596 = .ok (.iload_n 2, 1) := by decide +kernel
theorem dX12_goesOn_597 : decode cX12_goesOn 597 = .ok (.iconst 5, 1) := by decide +kernel
theorem dX12_goesOn_598 : decode cX12_goesOn 598 = .ok (.if_icmp .ne 15, 3) := by decide +kernel
theorem dX12_goesOn_601 : decode cX12_goesOn 601 = .ok (.aload_n 0, 1) := by decide +kernel
theorem dX12_goesOn_602 : decode cX12_goesOn 602 = .ok (.getfield 118, 3) := by decide +kernel
theorem dX12_goesOn_605 : decode cX12_goesOn 605 = .ok (.aload_n 0, 1) := by decide +kernel
theorem dX12_goesOn_606 : decode cX12_goesOn 606 = .ok (.getfield 131, 3) := by decide +kernel
theorem dX12_goesOn_609 : decode cX12_goesOn 609 = .ok (.iconst 1, 1) := by decide +kernel
theorem dX12_goesOn_610 : decode cX12_goesOn 610 = .ok (.isub, 1) := by decide +kernel
theorem dX12_goesOn_611 : decode cX12_goesOn 611 = .ok (.iconst 2, 1) := by decide +kernel
theorem dX12_goesOn_612 : decode cX12_goesOn 612 = .ok (.iastore, 1) := by decide +kernel
theorem dX12_goesOn_613 : decode cX12_goesOn 613 = .ok (.aload_n 0, 1) := by decide +kernel
theorem dX12_goesOn_614 : decode cX12_goesOn 614 = .ok (.invokevirtual 247, 3) := by decide +kernel
theorem dX12_goesOn_617 : decode cX12_goesOn 617 = .ok (.iconst 1, 1) := by decide +kernel
theorem dX12_goesOn_618 : decode cX12_goesOn 618 = .ok (.ireturn, 1) := by decide +kernel
theorem dX12_reads_0 : decode cX12_reads 0 = .ok (.aload_n 0, 1) := by decide +kernel
theorem dX12_reads_1 : decode cX12_reads 1 = .ok (.getfield 36, 3) := by decide +kernel
theorem dX12_reads_4 : decode cX12_reads 4 = .ok (.ifCond .le 4, 3) := by decide +kernel
theorem dX12_reads_7 : decode cX12_reads 7 = .ok (.return_, 1) := by decide +kernel
theorem dX12_reads_8 : decode cX12_reads 8 = .ok (.aload_n 0, 1) := by decide +kernel
theorem dX12_reads_9 : decode cX12_reads 9 = .ok (.iconst 0, 1) := by decide +kernel
theorem dX12_reads_10 : decode cX12_reads 10 = .ok (.putfield 131, 3) := by decide +kernel
theorem dX12_reads_13 : decode cX12_reads 13 = .ok (.aload_n 0, 1) := by decide +kernel
theorem dX12_reads_14 : decode cX12_reads 14 = .ok (.iconst 0, 1) := by decide +kernel
theorem dX12_reads_15 : decode cX12_reads 15 = .ok (.putfield 134, 3) := by decide +kernel
theorem dX12_reads_18 : decode cX12_reads 18 = .ok (.aload_n 0, 1) := by decide +kernel
theorem dX12_reads_19 : decode cX12_reads 19 = .ok (.iconst 0, 1) := by decide +kernel
theorem dX12_reads_20 : decode cX12_reads 20 = .ok (.putfield 140, 3) := by decide +kernel
theorem dX12_reads_23 : decode cX12_reads 23 = .ok (.aload_n 0, 1) := by decide +kernel
theorem dX12_reads_24 : decode cX12_reads 24 = .ok (.iconst 0, 1) := by decide +kernel
theorem dX12_reads_25 : decode cX12_reads 25 = .ok (.putfield 143, 3) := by decide +kernel
theorem dX12_reads_28 : decode cX12_reads 28 = .ok (.aload_n 0, 1) := by decide +kernel
theorem dX12_reads_29 : decode cX12_reads 29 = .ok (.iload_n 1, 1) := by decide +kernel
theorem dX12_reads_30 : decode cX12_reads 30 = .ok (.ifCond .eq 7, 3) := by decide +kernel
theorem dX12_reads_33 : decode cX12_reads 33 = .ok (.iconst 1, 1) := by decide +kernel
theorem dX12_reads_34 : decode cX12_reads 34 = .ok (.goto 4, 3) := by decide +kernel
theorem dX12_reads_37 : decode cX12_reads 37 = .ok (.iconst 0, 1) := by decide +kernel
theorem dX12_reads_38 : decode cX12_reads 38 = .ok (.invokevirtual 319, 3) := by decide +kernel
theorem dX12_reads_41 : decode cX12_reads 41 = .ok (.iconst 1, 1) := by decide +kernel
theorem dX12_reads_42 : decode cX12_reads 42 = .ok (.istore_n 2, 1) := by decide +kernel
theorem dX12_reads_43 : decode cX12_reads 43 = .ok (.iload_n 2, 1) := by decide +kernel
theorem dX12_reads_44 : decode cX12_reads 44 = .ok (.ifCond .eq 46, 3) := by decide +kernel
theorem dX12_reads_47 : decode cX12_reads 47 = .ok (.aload_n 0, 1) := by decide +kernel
theorem dX12_reads_48 : decode cX12_reads 48 = .ok (.getfield 143, 3) := by decide +kernel
theorem dX12_reads_51 : decode cX12_reads 51 = .ok (.ifCond .ne 14, 3) := by decide +kernel
theorem dX12_reads_54 : decode cX12_reads 54 = .ok (.aload_n 0, 1) := by decide +kernel
theorem dX12_reads_55 : decode cX12_reads 55 = .ok (.aload_n 0, 1) := by decide +kernel
theorem dX12_reads_56 : decode cX12_reads 56 = .ok (.invokevirtual 338, 3) := by decide +kernel
theorem dX12_reads_59 : decode cX12_reads 59 = .ok (.putfield 143, 3) := by decide +kernel
theorem dX12_reads_62 : decode cX12_reads 62 = .ok (.goto 8, 3) := by decide +kernel
theorem dX12_reads_65 : decode cX12_reads 65 = .ok (.aload_n 0, 1) := by decide +kernel
theorem dX12_reads_66 : decode cX12_reads 66 = .ok (.invokevirtual 341, 3) := by decide +kernel
theorem dX12_reads_69 : decode cX12_reads 69 = .ok (.istore_n 2, 1) := by decide +kernel
theorem dX12_reads_70 : decode cX12_reads 70 = .ok (.iload_n 2, 1) := by decide +kernel
theorem dX12_reads_71 : decode cX12_reads 71 = .ok (.ifCond .eq 14, 3) := by decide +kernel
theorem dX12_reads_74 : decode cX12_reads 74 = .ok (.aload_n 0, 1) := by decide +kernel
theorem dX12_reads_75 : decode cX12_reads 75 = .ok (.getfield 36, 3) := by decide +kernel
theorem dX12_reads_78 : decode cX12_reads 78 = .ok (.ifCond .ne 7, 3) := by decide +kernel
theorem dX12_reads_81 : decode cX12_reads 81 = .ok (.iconst 1, 1) := by decide +kernel
theorem dX12_reads_82 : decode cX12_reads 82 = .ok (.goto 4, 3) := by decide +kernel
theorem dX12_reads_85 : decode cX12_reads 85 = .ok (.iconst 0, 1) := by decide +kernel
theorem dX12_reads_86 : decode cX12_reads 86 = .ok (.istore_n 2, 1) := by decide +kernel
theorem dX12_reads_87 : decode cX12_reads 87 = .ok (.goto (-44), 3) := by decide +kernel
theorem dX12_reads_90 : decode cX12_reads 90 = .ok (.return_, 1) := by decide +kernel
theorem dX12_isCounted_0 : decode cX12_isCounted 0 = .ok (.aload_n 0, 1) := by decide +kernel
theorem dX12_isCounted_1 : decode cX12_isCounted 1 = .ok (.getfield 36, 3) := by decide +kernel
theorem dX12_isCounted_4 : decode cX12_isCounted 4 = .ok (.ifCond .ne 17, 3) := by decide +kernel
theorem dX12_isCounted_7 : decode cX12_isCounted 7 = .ok (.iload_n 1, 1) := by decide +kernel
theorem dX12_isCounted_8 : decode cX12_isCounted 8 = .ok (.ifCond .eq 13, 3) := by decide +kernel
theorem dX12_isCounted_11 : decode cX12_isCounted 11 = .ok (.aload_n 0, 1) := by decide +kernel
theorem dX12_isCounted_12 : decode cX12_isCounted 12 = .ok (.bipush 6, 2) := by decide +kernel
theorem dX12_isCounted_14 : decode cX12_isCounted 14 = .ok (.aload_n 0, 1) := by decide +kernel
theorem dX12_isCounted_15 : decode cX12_isCounted 15 = .ok (.getfield 23, 3) := by decide +kernel
theorem dX12_isCounted_18 : decode cX12_isCounted 18 = .ok (.invokevirtual 230, 3) := by decide +kernel
theorem dX12_isCounted_21 : decode cX12_isCounted 21 = .ok (.aload_n 0, 1) := by decide +kernel
theorem dX12_isCounted_22 : decode cX12_isCounted 22 = .ok (.getfield 36, 3) := by decide +kernel
theorem dX12_isCounted_25 : decode cX12_isCounted 25 = .ok (.ifCond .ne 7, 3) := by decide +kernel
theorem dX12_isCounted_28 : decode cX12_isCounted 28 = .ok (.aload_n 0, 1) := by decide +kernel
theorem dX12_isCounted_29 : decode cX12_isCounted 29 = .ok (.invokevirtual 247, 3) := by decide +kernel
theorem dX12_isCounted_32 : decode cX12_isCounted 32 = .ok (.aload_n 0, 1) := by decide +kernel
theorem dX12_isCounted_33 : decode cX12_isCounted 33 = .ok (.getfield 36, 3) := by decide +kernel
theorem dX12_isCounted_36 : decode cX12_isCounted 36 = .ok (.ifCond .ne 7, 3) := by decide +kernel
theorem dX12_isCounted_39 : decode cX12_isCounted 39 = .ok (.iconst 1, 1) := by decide +kernel
theorem dX12_isCounted_40 : decode cX12_isCounted 40 = .ok (.goto 4, 3) := by decide +kernel
theorem dX12_isCounted_43 : decode cX12_isCounted 43 = .ok (.iconst 0, 1) := by decide +kernel
theorem dX12_isCounted_44 : decode cX12_isCounted 44 = .ok (.ireturn, 1) := by decide +kernel
theorem dX12_mustWord_0 : decode cX12_mustWord 0 = .ok (.aload_n 0, 1) := by decide +kernel
theorem dX12_mustWord_1 : decode cX12_mustWord 1 = .ok (.invokevirtual 241, 3) := by decide +kernel
theorem dX12_mustWord_4 : decode cX12_mustWord 4 = .ok (.aload_n 0, 1) := by decide +kernel
theorem dX12_mustWord_5 : decode cX12_mustWord 5 = .ok (.getfield 36, 3) := by decide +kernel
theorem dX12_mustWord_8 : decode cX12_mustWord 8 = .ok (.ifCond .le 4, 3) := by decide +kernel
theorem dX12_mustWord_11 : decode cX12_mustWord 11 = .ok (.return_, 1) := by decide +kernel
theorem dX12_mustWord_12 : decode cX12_mustWord 12 = .ok (.aload_n 0, 1) := by decide +kernel
theorem dX12_mustWord_13 : decode cX12_mustWord 13 = .ok (.lload_n 1, 1) := by decide +kernel
theorem dX12_mustWord_14 : decode cX12_mustWord 14 = .ok (.invokevirtual 325, 3) := by decide +kernel
theorem dX12_mustWord_17 : decode cX12_mustWord 17 = .ok (.ifCond .ne 12, 3) := by decide +kernel
theorem dX12_mustWord_20 : decode cX12_mustWord 20 = .ok (.aload_n 0, 1) := by decide +kernel
theorem dX12_mustWord_21 : decode cX12_mustWord 21 = .ok (.iconst 1, 1) := by decide +kernel
theorem dX12_mustWord_22 : decode cX12_mustWord 22 = .ok (.aload_n 0, 1) := by decide +kernel
theorem dX12_mustWord_23 : decode cX12_mustWord 23 = .ok (.getfield 23, 3) := by decide +kernel
theorem dX12_mustWord_26 : decode cX12_mustWord 26 = .ok (.invokevirtual 230, 3) := by decide +kernel
theorem dX12_mustWord_29 : decode cX12_mustWord 29 = .ok (.aload_n 0, 1) := by decide +kernel
theorem dX12_mustWord_30 : decode cX12_mustWord 30 = .ok (.getfield 36, 3) := by decide +kernel
theorem dX12_mustWord_33 : decode cX12_mustWord 33 = .ok (.ifCond .ne 7, 3) := by decide +kernel
theorem dX12_mustWord_36 : decode cX12_mustWord 36 = .ok (.aload_n 0, 1) := by decide +kernel
theorem dX12_mustWord_37 : decode cX12_mustWord 37 = .ok (.invokevirtual 247, 3) := by decide +kernel
theorem dX12_mustWord_40 : decode cX12_mustWord 40 = .ok (.return_, 1) := by decide +kernel
theorem dX12_has2_0 : decode cX12_has2 0 = .ok (.iload_n 0, 1) := by decide +kernel
theorem dX12_has2_1 : decode cX12_has2 1 = .ok (.iload_n 1, 1) := by decide +kernel
theorem dX12_has2_2 : decode cX12_has2 2 = .ok (.ishr, 1) := by decide +kernel
theorem dX12_has2_3 : decode cX12_has2 3 = .ok (.iconst 1, 1) := by decide +kernel
theorem dX12_has2_4 : decode cX12_has2 4 = .ok (.iand, 1) := by decide +kernel
theorem dX12_has2_5 : decode cX12_has2 5 = .ok (.iconst 1, 1) := by decide +kernel
theorem dX12_has2_6 : decode cX12_has2 6 = .ok (.if_icmp .ne 7, 3) := by decide +kernel
theorem dX12_has2_9 : decode cX12_has2 9 = .ok (.iconst 1, 1) := by decide +kernel
theorem dX12_has2_10 : decode cX12_has2 10 = .ok (.goto 4, 3) := by decide +kernel
theorem dX12_has2_13 : decode cX12_has2 13 = .ok (.iconst 0, 1) := by decide +kernel
theorem dX12_has2_14 : decode cX12_has2 14 = .ok (.ireturn, 1) := by decide +kernel
theorem dX12_fresh_0 : decode cX12_fresh 0 = .ok (.aload_n 0, 1) := by decide +kernel
theorem dX12_fresh_1 : decode cX12_fresh 1 = .ok (.invokevirtual 241, 3) := by decide +kernel
theorem dX12_fresh_4 : decode cX12_fresh 4 = .ok (.aload_n 0, 1) := by decide +kernel
theorem dX12_fresh_5 : decode cX12_fresh 5 = .ok (.getfield 36, 3) := by decide +kernel
theorem dX12_fresh_8 : decode cX12_fresh 8 = .ok (.ifCond .le 5, 3) := by decide +kernel
theorem dX12_fresh_11 : decode cX12_fresh 11 = .ok (.lconst 0, 1) := by decide +kernel
theorem dX12_fresh_12 : decode cX12_fresh 12 = .ok (.lreturn, 1) := by decide +kernel
theorem dX12_fresh_13 : decode cX12_fresh 13 = .ok (.aload_n 0, 1) := by decide +kernel
theorem dX12_fresh_14 : decode cX12_fresh 14 = .ok (.getfield 20, 3) := by decide +kernel
theorem dX12_fresh_17 : decode cX12_fresh 17 = .ok (.iconst 1, 1) := by decide +kernel
theorem dX12_fresh_18 : decode cX12_fresh 18 = .ok (.if_icmp .ne 14, 3) := by decide +kernel
theorem dX12_fresh_21 : decode cX12_fresh 21 = .ok (.aload_n 0, 1) := by decide +kernel
theorem dX12_fresh_22 : decode cX12_fresh 22 = .ok (.aload_n 0, 1) := by decide +kernel
theorem dX12_fresh_23 : decode cX12_fresh 23 = .ok (.getfield 32, 3) := by decide +kernel
theorem dX12_fresh_26 : decode cX12_fresh 26 = .ok (.invokevirtual 344, 3) := by decide +kernel
theorem dX12_fresh_29 : decode cX12_fresh 29 = .ok (.ifCond .eq 12, 3) := by decide +kernel
theorem dX12_fresh_32 : decode cX12_fresh 32 = .ok (.aload_n 0, 1) := by decide +kernel
theorem dX12_fresh_33 : decode cX12_fresh 33 = .ok (.iconst 1, 1) := by decide +kernel
theorem dX12_fresh_34 : decode cX12_fresh 34 = .ok (.aload_n 0, 1) := by decide +kernel
theorem dX12_fresh_35 : decode cX12_fresh 35 = .ok (.getfield 23, 3) := by decide +kernel
theorem dX12_fresh_38 : decode cX12_fresh 38 = .ok (.invokevirtual 230, 3) := by decide +kernel
theorem dX12_fresh_41 : decode cX12_fresh 41 = .ok (.aload_n 0, 1) := by decide +kernel
theorem dX12_fresh_42 : decode cX12_fresh 42 = .ok (.getfield 36, 3) := by decide +kernel
theorem dX12_fresh_45 : decode cX12_fresh 45 = .ok (.ifCond .ne 51, 3) := by decide +kernel
theorem dX12_fresh_48 : decode cX12_fresh 48 = .ok (.aload_n 0, 1) := by decide +kernel
theorem dX12_fresh_49 : decode cX12_fresh 49 = .ok (.iconst 0, 1) := by decide +kernel
theorem dX12_fresh_50 : decode cX12_fresh 50 = .ok (.aload_n 0, 1) := by decide +kernel
theorem dX12_fresh_51 : decode cX12_fresh 51 = .ok (.getfield 32, 3) := by decide +kernel
theorem dX12_fresh_54 : decode cX12_fresh 54 = .ok (.invokevirtual 347, 3) := by decide +kernel
theorem dX12_fresh_57 : decode cX12_fresh 57 = .ok (.iconst (-1), 1) := by decide +kernel
theorem dX12_fresh_58 : decode cX12_fresh 58 = .ok (.if_icmp .ne 29, 3) := by decide +kernel
theorem dX12_fresh_61 : decode cX12_fresh 61 = .ok (.aload_n 0, 1) := by decide +kernel
theorem dX12_fresh_62 : decode cX12_fresh 62 = .ok (.iconst 1, 1) := by decide +kernel
theorem dX12_fresh_63 : decode cX12_fresh 63 = .ok (.aload_n 0, 1) := by decide +kernel
theorem dX12_fresh_64 : decode cX12_fresh 64 = .ok (.getfield 32, 3) := by decide +kernel
theorem dX12_fresh_67 : decode cX12_fresh 67 = .ok (.invokevirtual 347, 3) := by decide +kernel
theorem dX12_fresh_70 : decode cX12_fresh 70 = .ok (.iconst (-1), 1) := by decide +kernel
theorem dX12_fresh_71 : decode cX12_fresh 71 = .ok (.if_icmp .ne 16, 3) := by decide +kernel
theorem dX12_fresh_74 : decode cX12_fresh 74 = .ok (.aload_n 0, 1) := by decide +kernel
theorem dX12_fresh_75 : decode cX12_fresh 75 = .ok (.iconst 2, 1) := by decide +kernel
theorem dX12_fresh_76 : decode cX12_fresh 76 = .ok (.aload_n 0, 1) := by decide +kernel
theorem dX12_fresh_77 : decode cX12_fresh 77 = .ok (.getfield 32, 3) := by decide +kernel
theorem dX12_fresh_80 : decode cX12_fresh 80 = .ok (.invokevirtual 347, 3) := by decide +kernel
theorem dX12_fresh_83 : decode cX12_fresh 83 = .ok (.iconst (-1), 1) := by decide +kernel
theorem dX12_fresh_84 : decode cX12_fresh 84 = .ok (.if_icmp .eq 12, 3) := by decide +kernel
theorem dX12_fresh_87 : decode cX12_fresh 87 = .ok (.aload_n 0, 1) := by decide +kernel
theorem dX12_fresh_88 : decode cX12_fresh 88 = .ok (.iconst 2, 1) := by decide +kernel
theorem dX12_fresh_89 : decode cX12_fresh 89 = .ok (.aload_n 0, 1) := by decide +kernel
theorem dX12_fresh_90 : decode cX12_fresh 90 = .ok (.getfield 23, 3) := by decide +kernel
theorem dX12_fresh_93 : decode cX12_fresh 93 = .ok (.invokevirtual 230, 3) := by decide +kernel
theorem dX12_fresh_96 : decode cX12_fresh 96 = .ok (.aload_n 0, 1) := by decide +kernel
theorem dX12_fresh_97 : decode cX12_fresh 97 = .ok (.getfield 32, 3) := by decide +kernel
theorem dX12_fresh_100 : decode cX12_fresh 100 = .ok (.lstore_n 1, 1) := by decide +kernel
theorem dX12_fresh_101 : decode cX12_fresh 101 = .ok (.aload_n 0, 1) := by decide +kernel
theorem dX12_fresh_102 : decode cX12_fresh 102 = .ok (.getfield 36, 3) := by decide +kernel
theorem dX12_fresh_105 : decode cX12_fresh 105 = .ok (.ifCond .ne 7, 3) := by decide +kernel
theorem dX12_fresh_108 : decode cX12_fresh 108 = .ok (.aload_n 0, 1) := by decide +kernel
theorem dX12_fresh_109 : decode cX12_fresh 109 = .ok (.invokevirtual 247, 3) := by decide +kernel
theorem dX12_fresh_112 : decode cX12_fresh 112 = .ok (.lload_n 1, 1) := by decide +kernel
theorem dX12_fresh_113 : decode cX12_fresh 113 = .ok (.lreturn, 1) := by decide +kernel
theorem dX12_known_0 : decode cX12_known 0 = .ok (.aload_n 0, 1) := by decide +kernel
theorem dX12_known_1 : decode cX12_known 1 = .ok (.invokevirtual 241, 3) := by decide +kernel
theorem dX12_known_4 : decode cX12_known 4 = .ok (.aload_n 0, 1) := by decide +kernel
theorem dX12_known_5 : decode cX12_known 5 = .ok (.getfield 36, 3) := by decide +kernel
theorem dX12_known_8 : decode cX12_known 8 = .ok (.ifCond .le 5, 3) := by decide +kernel
theorem dX12_known_11 : decode cX12_known 11 = .ok (.iconst 0, 1) := by decide +kernel
theorem dX12_known_12 : decode cX12_known 12 = .ok (.ireturn, 1) := by decide +kernel
theorem dX12_known_13 : decode cX12_known 13 = .ok (.aload_n 0, 1) := by decide +kernel
theorem dX12_known_14 : decode cX12_known 14 = .ok (.getfield 20, 3) := by decide +kernel
theorem dX12_known_17 : decode cX12_known 17 = .ok (.iconst 1, 1) := by decide +kernel
theorem dX12_known_18 : decode cX12_known 18 = .ok (.if_icmp .ne 14, 3) := by decide +kernel
theorem dX12_known_21 : decode cX12_known 21 = .ok (.aload_n 0, 1) := by decide +kernel
theorem dX12_known_22 : decode cX12_known 22 = .ok (.aload_n 0, 1) := by decide +kernel
theorem dX12_known_23 : decode cX12_known 23 = .ok (.getfield 32, 3) := by decide +kernel
theorem dX12_known_26 : decode cX12_known 26 = .ok (.invokevirtual 344, 3) := by decide +kernel
theorem dX12_known_29 : decode cX12_known 29 = .ok (.ifCond .eq 12, 3) := by decide +kernel
theorem dX12_known_32 : decode cX12_known 32 = .ok (.aload_n 0, 1) := by decide +kernel
theorem dX12_known_33 : decode cX12_known 33 = .ok (.iconst 1, 1) := by decide +kernel
theorem dX12_known_34 : decode cX12_known 34 = .ok (.aload_n 0, 1) := by decide +kernel
theorem dX12_known_35 : decode cX12_known 35 = .ok (.getfield 23, 3) := by decide +kernel
theorem dX12_known_38 : decode cX12_known 38 = .ok (.invokevirtual 230, 3) := by decide +kernel
theorem dX12_known_41 : decode cX12_known 41 = .ok (.aload_n 0, 1) := by decide +kernel
theorem dX12_known_42 : decode cX12_known 42 = .ok (.getfield 36, 3) := by decide +kernel
theorem dX12_known_45 : decode cX12_known 45 = .ok (.ifCond .le 7, 3) := by decide +kernel
theorem dX12_known_48 : decode cX12_known 48 = .ok (.iconst 0, 1) := by decide +kernel
theorem dX12_known_49 : decode cX12_known 49 = .ok (.goto 12, 3) := by decide +kernel
theorem dX12_known_52 : decode cX12_known 52 = .ok (.aload_n 0, 1) := by decide +kernel
theorem dX12_known_53 : decode cX12_known 53 = .ok (.iload_n 1, 1) := by decide +kernel
theorem dX12_known_54 : decode cX12_known 54 = .ok (.aload_n 0, 1) := by decide +kernel
theorem dX12_known_55 : decode cX12_known 55 = .ok (.getfield 32, 3) := by decide +kernel
theorem dX12_known_58 : decode cX12_known 58 = .ok (.invokevirtual 347, 3) := by decide +kernel
theorem dX12_known_61 : decode cX12_known 61 = .ok (.istore_n 3, 1) := by decide +kernel
theorem dX12_known_62 : decode cX12_known 62 = .ok (.aload_n 0, 1) := by decide +kernel
theorem dX12_known_63 : decode cX12_known 63 = .ok (.getfield 36, 3) := by decide +kernel
theorem dX12_known_66 : decode cX12_known 66 = .ok (.ifCond .ne 25, 3) := by decide +kernel
theorem dX12_known_69 : decode cX12_known 69 = .ok (.iload_n 3, 1) := by decide +kernel
theorem dX12_known_70 : decode cX12_known 70 = .ok (.iconst (-1), 1) := by decide +kernel
theorem dX12_known_71 : decode cX12_known 71 = .ok (.if_icmp .eq 11, 3) := by decide +kernel
theorem dX12_known_74 : decode cX12_known 74 = .ok (.iload_n 2, 1) := by decide +kernel
theorem dX12_known_75 : decode cX12_known 75 = .ok (.iload_n 3, 1) := by decide +kernel
theorem dX12_known_76 : decode cX12_known 76 = .ok (.invokestatic 351, 3) := by decide +kernel
theorem dX12_known_79 : decode cX12_known 79 = .ok (.ifCond .eq 12, 3) := by decide +kernel
theorem dX12_known_82 : decode cX12_known 82 = .ok (.aload_n 0, 1) := by decide +kernel
theorem dX12_known_83 : decode cX12_known 83 = .ok (.iconst 3, 1) := by decide +kernel
theorem dX12_known_84 : decode cX12_known 84 = .ok (.aload_n 0, 1) := by decide +kernel
theorem dX12_known_85 : decode cX12_known 85 = .ok (.getfield 23, 3) := by decide +kernel
theorem dX12_known_88 : decode cX12_known 88 = .ok (.invokevirtual 230, 3) := by decide +kernel
theorem dX12_known_91 : decode cX12_known 91 = .ok (.aload_n 0, 1) := by decide +kernel
theorem dX12_known_92 : decode cX12_known 92 = .ok (.getfield 36, 3) := by decide +kernel
theorem dX12_known_95 : decode cX12_known 95 = .ok (.ifCond .ne 7, 3) := by decide +kernel
theorem dX12_known_98 : decode cX12_known 98 = .ok (.aload_n 0, 1) := by decide +kernel
theorem dX12_known_99 : decode cX12_known 99 = .ok (.invokevirtual 247, 3) := by decide +kernel
theorem dX12_known_102 : decode cX12_known 102 = .ok (.aload_n 0, 1) := by decide +kernel
theorem dX12_known_103 : decode cX12_known 103 = .ok (.getfield 36, 3) := by decide +kernel
theorem dX12_known_106 : decode cX12_known 106 = .ok (.ifCond .le 7, 3) := by decide +kernel
theorem dX12_known_109 : decode cX12_known 109 = .ok (.iconst 0, 1) := by decide +kernel
theorem dX12_known_110 : decode cX12_known 110 = .ok (.goto 4, 3) := by decide +kernel
theorem dX12_known_113 : decode cX12_known 113 = .ok (.iload_n 3, 1) := by decide +kernel
theorem dX12_known_114 : decode cX12_known 114 = .ok (.ireturn, 1) := by decide +kernel
theorem dX12_telling_0 : decode cX12_telling 0 = .ok (.aload_n 0, 1) := by decide +kernel
theorem dX12_telling_1 : decode cX12_telling 1 = .ok (.iconst 0, 1) := by decide +kernel
theorem dX12_telling_2 : decode cX12_telling 2 = .ok (.invokevirtual 355, 3) := by decide +kernel
theorem dX12_telling_5 : decode cX12_telling 5 = .ok (.ifCond .ne 5, 3) := by decide +kernel
theorem dX12_telling_8 : decode cX12_telling 8 = .ok (.iconst 0, 1) := by decide +kernel
theorem dX12_telling_9 : decode cX12_telling 9 = .ok (.ireturn, 1) := by decide +kernel
theorem dX12_telling_10 : decode cX12_telling 10 = .ok (.aload_n 0, 1) := by decide +kernel
theorem dX12_telling_11 : decode cX12_telling 11 = .ok (.iconst 0, 1) := by decide +kernel
theorem dX12_telling_12 : decode cX12_telling 12 = .ok (.iload_n 1, 1) := by decide +kernel
theorem dX12_telling_13 : decode cX12_telling 13 = .ok (.invokevirtual 359, 3) := by decide +kernel
theorem dX12_telling_16 : decode cX12_telling 16 = .ok (.ireturn, 1) := by decide +kernel
theorem dX12_isShaped_0 : decode cX12_isShaped 0 = .ok (.aload_n 0, 1) := by decide +kernel
theorem dX12_isShaped_1 : decode cX12_isShaped 1 = .ok (.aload_n 0, 1) := by decide +kernel
theorem dX12_isShaped_2 : decode cX12_isShaped 2 = .ok (.iload_n 1, 1) := by decide +kernel
theorem dX12_isShaped_3 : decode cX12_isShaped 3 = .ok (.invokevirtual 306, 3) := by decide +kernel
theorem dX12_isShaped_6 : decode cX12_isShaped 6 = .ok (.bipush 6, 2) := by decide +kernel
theorem dX12_isShaped_8 : decode cX12_isShaped 8 = .ok (.if_icmp .ne 7, 3) := by decide +kernel
theorem dX12_isShaped_11 : decode cX12_isShaped 11 = .ok (.iconst 1, 1) := by decide +kernel
theorem dX12_isShaped_12 : decode cX12_isShaped 12 = .ok (.goto 4, 3) := by decide +kernel
theorem dX12_isShaped_15 : decode cX12_isShaped 15 = .ok (.iconst 0, 1) := by decide +kernel
theorem dX12_isShaped_16 : decode cX12_isShaped 16 = .ok (.invokevirtual 355, 3) := by decide +kernel
theorem dX12_isShaped_19 : decode cX12_isShaped 19 = .ok (.ifCond .ne 5, 3) := by decide +kernel
theorem dX12_isShaped_22 : decode cX12_isShaped 22 = .ok (.iconst 0, 1) := by decide +kernel
theorem dX12_isShaped_23 : decode cX12_isShaped 23 = .ok (.ireturn, 1) := by decide +kernel
theorem dX12_isShaped_24 : decode cX12_isShaped 24 = .ok (.aload_n 0, 1) := by decide +kernel
theorem dX12_isShaped_25 : decode cX12_isShaped 25 = .ok (.iload_n 1, 1) := by decide +kernel
theorem dX12_isShaped_26 : decode cX12_isShaped 26 = .ok (.invokevirtual 306, 3) := by decide +kernel
theorem dX12_isShaped_29 : decode cX12_isShaped 29 = .ok (.istore_n 2, 1) := by decide +kernel
theorem dX12_isShaped_30 : decode cX12_isShaped 30 = .ok (.aload_n 0, 1) := by decide +kernel
theorem dX12_isShaped_31 : decode cX12_isShaped 31 = .ok (.invokevirtual 363, 3) := by decide +kernel
theorem dX12_isShaped_34 : decode cX12_isShaped 34 = .ok (.lstore_n 3, 1) := by decide +kernel
theorem dX12_isShaped_35 : decode cX12_isShaped 35 = .ok (.aload_n 0, 1) := by decide +kernel
theorem dX12_isShaped_36 : decode cX12_isShaped 36 = .ok (.ldc2_w 252, 3) := by decide +kernel
theorem dX12_isShaped_39 : decode cX12_isShaped 39 = .ok (.invokevirtual 367, 3) := by decide +kernel
theorem dX12_isShaped_42 : decode cX12_isShaped 42 = .ok (.aload_n 0, 1) := by decide +kernel
theorem dX12_isShaped_43 : decode cX12_isShaped 43 = .ok (.iconst 0, 1) := by decide +kernel
theorem dX12_isShaped_44 : decode cX12_isShaped 44 = .ok (.bipush 9, 2) := by decide +kernel
theorem dX12_isShaped_46 : decode cX12_isShaped 46 = .ok (.invokevirtual 359, 3) := by decide +kernel
theorem dX12_isShaped_49 : decode cX12_isShaped 49 = .ok (.istore 5, 2) := by decide +kernel
theorem dX12_isShaped_51 : decode cX12_isShaped 51 = .ok (.aload_n 0, 1) := by decide +kernel
theorem dX12_isShaped_52 : decode cX12_isShaped 52 = .ok (.ldc2_w 254, 3) := by decide +kernel
theorem dX12_isShaped_55 : decode cX12_isShaped 55 = .ok (.invokevirtual 367, 3) := by decide +kernel
theorem dX12_isShaped_58 : decode cX12_isShaped 58 = .ok (.aload_n 0, 1) := by decide +kernel
theorem dX12_isShaped_59 : decode cX12_isShaped 59 = .ok (.iconst 0, 1) := by decide +kernel
theorem dX12_isShaped_60 : decode cX12_isShaped 60 = .ok (.bipush 9, 2) := by decide +kernel
theorem dX12_isShaped_62 : decode cX12_isShaped 62 = .ok (.invokevirtual 359, 3) := by decide +kernel
theorem dX12_isShaped_65 : decode cX12_isShaped 65 = .ok (.istore 6, 2) := by decide +kernel
theorem dX12_isShaped_67 : decode cX12_isShaped 67 = .ok (.aload_n 0, 1) := by decide +kernel
theorem dX12_isShaped_68 : decode cX12_isShaped 68 = .ok (.ldc2_w 256, 3) := by decide +kernel
theorem dX12_isShaped_71 : decode cX12_isShaped 71 = .ok (.invokevirtual 367, 3) := by decide +kernel
theorem dX12_isShaped_74 : decode cX12_isShaped 74 = .ok (.aload_n 0, 1) := by decide +kernel
theorem dX12_isShaped_75 : decode cX12_isShaped 75 = .ok (.iconst 0, 1) := by decide +kernel
theorem dX12_isShaped_76 : decode cX12_isShaped 76 = .ok (.bipush 9, 2) := by decide +kernel
theorem dX12_isShaped_78 : decode cX12_isShaped 78 = .ok (.invokevirtual 359, 3) := by decide +kernel
theorem dX12_isShaped_81 : decode cX12_isShaped 81 = .ok (.istore 7, 2) := by decide +kernel
theorem dX12_isShaped_83 : decode cX12_isShaped 83 = .ok (.aload_n 0, 1) := by decide +kernel
theorem dX12_isShaped_84 : decode cX12_isShaped 84 = .ok (.getfield 36, 3) := by decide +kernel
theorem dX12_isShaped_87 : decode cX12_isShaped 87 = .ok (.ifCond .le 5, 3) := by decide +kernel
theorem dX12_isShaped_90 : decode cX12_isShaped 90 = .ok (.iconst 0, 1) := by decide +kernel
theorem dX12_isShaped_91 : decode cX12_isShaped 91 = .ok (.ireturn, 1) := by decide +kernel
theorem dX12_isShaped_92 : decode cX12_isShaped 92 = .ok (.bipush 18, 2) := by decide +kernel
theorem dX12_isShaped_94 : decode cX12_isShaped 94 = .ok (.aload_n 0, 1) := by decide +kernel
theorem dX12_isShaped_95 : decode cX12_isShaped 95 = .ok (.getfield 109, 3) := by decide +kernel
theorem dX12_isShaped_98 : decode cX12_isShaped 98 = .ok (.imul, 1) := by decide +kernel
theorem dX12_isShaped_99 : decode cX12_isShaped 99 = .ok (.iconst 3, 1) := by decide +kernel
theorem dX12_isShaped_100 : decode cX12_isShaped 100 = .ok (.iload_n 2, 1) := by decide +kernel
theorem dX12_isShaped_101 : decode cX12_isShaped 101 = .ok (.imul, 1) := by decide +kernel
theorem dX12_isShaped_102 : decode cX12_isShaped 102 = .ok (.iadd, 1) := by decide +kernel
theorem dX12_isShaped_103 : decode cX12_isShaped 103 = .ok (.istore 8, 2) := by decide +kernel
theorem dX12_isShaped_105 : decode cX12_isShaped 105 = .ok (.aload_n 0, 1) := by decide +kernel
theorem dX12_isShaped_106 : decode cX12_isShaped 106 = .ok (.getfield 102, 3) := by decide +kernel
theorem dX12_isShaped_109 : decode cX12_isShaped 109 = .ok (.bipush 18, 2) := by decide +kernel
theorem dX12_isShaped_111 : decode cX12_isShaped 111 = .ok (.aload_n 0, 1) := by decide +kernel
theorem dX12_isShaped_112 : decode cX12_isShaped 112 = .ok (.getfield 109, 3) := by decide +kernel
theorem dX12_isShaped_115 : decode cX12_isShaped 115 = .ok (.imul, 1) := by decide +kernel
theorem dX12_isShaped_116 : decode cX12_isShaped 116 = .ok (.bipush 6, 2) := by decide +kernel
theorem dX12_isShaped_118 : decode cX12_isShaped 118 = .ok (.iload_n 1, 1) := by decide +kernel
theorem dX12_isShaped_119 : decode cX12_isShaped 119 = .ok (.imul, 1) := by decide +kernel
theorem dX12_isShaped_120 : decode cX12_isShaped 120 = .ok (.iadd, 1) := by decide +kernel
theorem dX12_isShaped_121 : decode cX12_isShaped 121 = .ok (.iload_n 2, 1) := by decide +kernel
theorem dX12_isShaped_122 : decode cX12_isShaped 122 = .ok (.iadd, 1) := by decide +kernel
theorem dX12_isShaped_123 : decode cX12_isShaped 123 = .ok (.lload_n 3, 1) := by decide +kernel
theorem dX12_isShaped_124 : decode cX12_isShaped 124 = .ok (.lastore, 1) := by decide +kernel
theorem dX12_isShaped_125 : decode cX12_isShaped 125 = .ok (.iload_n 1, 1) := by decide +kernel
theorem dX12_isShaped_126 : decode cX12_isShaped 126 = .ok (.ifCond .ne 21, 3) := by decide +kernel
theorem dX12_isShaped_129 : decode cX12_isShaped 129 = .ok (.aload_n 0, 1) := by decide +kernel
theorem dX12_isShaped_130 : decode cX12_isShaped 130 = .ok (.getfield 57, 3) := by decide +kernel
theorem dX12_isShaped_133 : decode cX12_isShaped 133 = .ok (.iload 8, 2) := by decide +kernel
theorem dX12_isShaped_135 : decode cX12_isShaped 135 = .ok (.iload 5, 2) := by decide +kernel
theorem dX12_isShaped_137 : decode cX12_isShaped 137 = .ok (.iload 6, 2) := by decide +kernel
theorem dX12_isShaped_139 : decode cX12_isShaped 139 = .ok (.iload 7, 2) := by decide +kernel
theorem dX12_isShaped_141 : decode cX12_isShaped 141 = .ok (.invokestatic 371, 3) := by decide +kernel
theorem dX12_isShaped_144 : decode cX12_isShaped 144 = .ok (.goto 41, 3) := by decide +kernel
theorem dX12_isShaped_147 : decode cX12_isShaped 147 = .ok (.iload_n 1, 1) := by decide +kernel
theorem dX12_isShaped_148 : decode cX12_isShaped 148 = .ok (.iconst 1, 1) := by decide +kernel
theorem dX12_isShaped_149 : decode cX12_isShaped 149 = .ok (.if_icmp .ne 21, 3) := by decide +kernel
theorem dX12_isShaped_152 : decode cX12_isShaped 152 = .ok (.aload_n 0, 1) := by decide +kernel
theorem dX12_isShaped_153 : decode cX12_isShaped 153 = .ok (.getfield 66, 3) := by decide +kernel
theorem dX12_isShaped_156 : decode cX12_isShaped 156 = .ok (.iload 8, 2) := by decide +kernel
theorem dX12_isShaped_158 : decode cX12_isShaped 158 = .ok (.iload 5, 2) := by decide +kernel
theorem dX12_isShaped_160 : decode cX12_isShaped 160 = .ok (.iload 6, 2) := by decide +kernel
theorem dX12_isShaped_162 : decode cX12_isShaped 162 = .ok (.iload 7, 2) := by decide +kernel
theorem dX12_isShaped_164 : decode cX12_isShaped 164 = .ok (.invokestatic 371, 3) := by decide +kernel
theorem dX12_isShaped_167 : decode cX12_isShaped 167 = .ok (.goto 18, 3) := by decide +kernel
theorem dX12_isShaped_170 : decode cX12_isShaped 170 = .ok (.aload_n 0, 1) := by decide +kernel
theorem dX12_isShaped_171 : decode cX12_isShaped 171 = .ok (.getfield 75, 3) := by decide +kernel
theorem dX12_isShaped_174 : decode cX12_isShaped 174 = .ok (.iload 8, 2) := by decide +kernel
theorem dX12_isShaped_176 : decode cX12_isShaped 176 = .ok (.iload 5, 2) := by decide +kernel
theorem dX12_isShaped_178 : decode cX12_isShaped 178 = .ok (.iload 6, 2) := by decide +kernel
theorem dX12_isShaped_180 : decode cX12_isShaped 180 = .ok (.iload 7, 2) := by decide +kernel
theorem dX12_isShaped_182 : decode cX12_isShaped 182 = .ok (.invokestatic 371, 3) := by decide +kernel
theorem dX12_isShaped_185 : decode cX12_isShaped 185 = .ok (.iconst 1, 1) := by decide +kernel
theorem dX12_isShaped_186 : decode cX12_isShaped 186 = .ok (.ireturn, 1) := by decide +kernel
theorem dX12_shapes_0 : decode cX12_shapes 0 = .ok (.aload_n 0, 1) := by decide +kernel
theorem dX12_shapes_1 : decode cX12_shapes 1 = .ok (.iload_n 1, 1) := by decide +kernel
theorem dX12_shapes_2 : decode cX12_shapes 2 = .ok (.iload_n 2, 1) := by decide +kernel
theorem dX12_shapes_3 : decode cX12_shapes 3 = .ok (.iastore, 1) := by decide +kernel
theorem dX12_shapes_4 : decode cX12_shapes 4 = .ok (.aload_n 0, 1) := by decide +kernel
theorem dX12_shapes_5 : decode cX12_shapes 5 = .ok (.iload_n 1, 1) := by decide +kernel
theorem dX12_shapes_6 : decode cX12_shapes 6 = .ok (.iconst 1, 1) := by decide +kernel
theorem dX12_shapes_7 : decode cX12_shapes 7 = .ok (.iadd, 1) := by decide +kernel
theorem dX12_shapes_8 : decode cX12_shapes 8 = .ok (.iload_n 3, 1) := by decide +kernel
theorem dX12_shapes_9 : decode cX12_shapes 9 = .ok (.iastore, 1) := by decide +kernel
theorem dX12_shapes_10 : decode cX12_shapes 10 = .ok (.aload_n 0, 1) := by decide +kernel
theorem dX12_shapes_11 : decode cX12_shapes 11 = .ok (.iload_n 1, 1) := by decide +kernel
theorem dX12_shapes_12 : decode cX12_shapes 12 = .ok (.iconst 2, 1) := by decide +kernel
theorem dX12_shapes_13 : decode cX12_shapes 13 = .ok (.iadd, 1) := by decide +kernel
theorem dX12_shapes_14 : decode cX12_shapes 14 = .ok (.iload 4, 2) := by decide +kernel
theorem dX12_shapes_16 : decode cX12_shapes 16 = .ok (.iastore, 1) := by decide +kernel
theorem dX12_shapes_17 : decode cX12_shapes 17 = .ok (.return_, 1) := by decide +kernel
theorem dX12_blinding_0 : decode cX12_blinding 0 = .ok (.aload_n 0, 1) := by decide +kernel
theorem dX12_blinding_1 : decode cX12_blinding 1 = .ok (.iconst 0, 1) := by decide +kernel
theorem dX12_blinding_2 : decode cX12_blinding 2 = .ok (.invokevirtual 375, 3) := by decide +kernel
theorem dX12_blinding_5 : decode cX12_blinding 5 = .ok (.ifCond .eq 16, 3) := by decide +kernel
theorem dX12_blinding_8 : decode cX12_blinding 8 = .ok (.aload_n 0, 1) := by decide +kernel
theorem dX12_blinding_9 : decode cX12_blinding 9 = .ok (.getfield 54, 3) := by decide +kernel
theorem dX12_blinding_12 : decode cX12_blinding 12 = .ok (.aload_n 0, 1) := by decide +kernel
theorem dX12_blinding_13 : decode cX12_blinding 13 = .ok (.getfield 109, 3) := by decide +kernel
theorem dX12_blinding_16 : decode cX12_blinding 16 = .ok (.dup2, 1) := by decide +kernel
theorem dX12_blinding_17 : decode cX12_blinding 17 = .ok (.iaload, 1) := by decide +kernel
theorem dX12_blinding_18 : decode cX12_blinding 18 = .ok (.iconst 1, 1) := by decide +kernel
theorem dX12_blinding_19 : decode cX12_blinding 19 = .ok (.iadd, 1) := by decide +kernel
theorem dX12_blinding_20 : decode cX12_blinding 20 = .ok (.iastore, 1) := by decide +kernel
theorem dX12_blinding_21 : decode cX12_blinding 21 = .ok (.return_, 1) := by decide +kernel
theorem dX12_colouring_0 : decode cX12_colouring 0 = .ok (.aload_n 0, 1) := by decide +kernel
theorem dX12_colouring_1 : decode cX12_colouring 1 = .ok (.iconst 1, 1) := by decide +kernel
theorem dX12_colouring_2 : decode cX12_colouring 2 = .ok (.invokevirtual 375, 3) := by decide +kernel
theorem dX12_colouring_5 : decode cX12_colouring 5 = .ok (.ifCond .ne 4, 3) := by decide +kernel
theorem dX12_colouring_8 : decode cX12_colouring 8 = .ok (.return_, 1) := by decide +kernel
theorem dX12_colouring_9 : decode cX12_colouring 9 = .ok (.aload_n 0, 1) := by decide +kernel
theorem dX12_colouring_10 : decode cX12_colouring 10 = .ok (.ldc2_w 260, 3) := by decide +kernel
theorem dX12_colouring_13 : decode cX12_colouring 13 = .ok (.invokevirtual 367, 3) := by decide +kernel
theorem dX12_colouring_16 : decode cX12_colouring 16 = .ok (.aload_n 0, 1) := by decide +kernel
theorem dX12_colouring_17 : decode cX12_colouring 17 = .ok (.getfield 69, 3) := by decide +kernel
theorem dX12_colouring_20 : decode cX12_colouring 20 = .ok (.bipush 6, 2) := by decide +kernel
theorem dX12_colouring_22 : decode cX12_colouring 22 = .ok (.aload_n 0, 1) := by decide +kernel
theorem dX12_colouring_23 : decode cX12_colouring 23 = .ok (.getfield 109, 3) := by decide +kernel
theorem dX12_colouring_26 : decode cX12_colouring 26 = .ok (.imul, 1) := by decide +kernel
theorem dX12_colouring_27 : decode cX12_colouring 27 = .ok (.aload_n 0, 1) := by decide +kernel
theorem dX12_colouring_28 : decode cX12_colouring 28 = .ok (.getfield 63, 3) := by decide +kernel
theorem dX12_colouring_31 : decode cX12_colouring 31 = .ok (.aload_n 0, 1) := by decide +kernel
theorem dX12_colouring_32 : decode cX12_colouring 32 = .ok (.getfield 109, 3) := by decide +kernel
theorem dX12_colouring_35 : decode cX12_colouring 35 = .ok (.iaload, 1) := by decide +kernel
theorem dX12_colouring_36 : decode cX12_colouring 36 = .ok (.iadd, 1) := by decide +kernel
theorem dX12_colouring_37 : decode cX12_colouring 37 = .ok (.aload_n 0, 1) := by decide +kernel
theorem dX12_colouring_38 : decode cX12_colouring 38 = .ok (.iconst 0, 1) := by decide +kernel
theorem dX12_colouring_39 : decode cX12_colouring 39 = .ok (.bipush 99, 2) := by decide +kernel
theorem dX12_colouring_41 : decode cX12_colouring 41 = .ok (.invokevirtual 359, 3) := by decide +kernel
theorem dX12_colouring_44 : decode cX12_colouring 44 = .ok (.iastore, 1) := by decide +kernel
theorem dX12_colouring_45 : decode cX12_colouring 45 = .ok (.aload_n 0, 1) := by decide +kernel
theorem dX12_colouring_46 : decode cX12_colouring 46 = .ok (.getfield 36, 3) := by decide +kernel
theorem dX12_colouring_49 : decode cX12_colouring 49 = .ok (.ifCond .ne 16, 3) := by decide +kernel
theorem dX12_colouring_52 : decode cX12_colouring 52 = .ok (.aload_n 0, 1) := by decide +kernel
theorem dX12_colouring_53 : decode cX12_colouring 53 = .ok (.getfield 63, 3) := by decide +kernel
theorem dX12_colouring_56 : decode cX12_colouring 56 = .ok (.aload_n 0, 1) := by decide +kernel
theorem dX12_colouring_57 : decode cX12_colouring 57 = .ok (.getfield 109, 3) := by decide +kernel
theorem dX12_colouring_60 : decode cX12_colouring 60 = .ok (.dup2, 1) := by decide +kernel
theorem dX12_colouring_61 : decode cX12_colouring 61 = .ok (.iaload, 1) := by decide +kernel
theorem dX12_colouring_62 : decode cX12_colouring 62 = .ok (.iconst 1, 1) := by decide +kernel
theorem dX12_colouring_63 : decode cX12_colouring 63 = .ok (.iadd, 1) := by decide +kernel
theorem dX12_colouring_64 : decode cX12_colouring 64 = .ok (.iastore, 1) := by decide +kernel
theorem dX12_colouring_65 : decode cX12_colouring 65 = .ok (.return_, 1) := by decide +kernel
theorem dX12_thinging_0 : decode cX12_thinging 0 = .ok (.aload_n 0, 1) := by decide +kernel
theorem dX12_thinging_1 : decode cX12_thinging 1 = .ok (.iconst 2, 1) := by decide +kernel
theorem dX12_thinging_2 : decode cX12_thinging 2 = .ok (.invokevirtual 375, 3) := by decide +kernel
theorem dX12_thinging_5 : decode cX12_thinging 5 = .ok (.ifCond .ne 4, 3) := by decide +kernel
theorem dX12_thinging_8 : decode cX12_thinging 8 = .ok (.return_, 1) := by decide +kernel
theorem dX12_thinging_9 : decode cX12_thinging 9 = .ok (.aload_n 0, 1) := by decide +kernel
theorem dX12_thinging_10 : decode cX12_thinging 10 = .ok (.getfield 78, 3) := by decide +kernel
theorem dX12_thinging_13 : decode cX12_thinging 13 = .ok (.bipush 6, 2) := by decide +kernel
theorem dX12_thinging_15 : decode cX12_thinging 15 = .ok (.aload_n 0, 1) := by decide +kernel
theorem dX12_thinging_16 : decode cX12_thinging 16 = .ok (.getfield 109, 3) := by decide +kernel
theorem dX12_thinging_19 : decode cX12_thinging 19 = .ok (.imul, 1) := by decide +kernel
theorem dX12_thinging_20 : decode cX12_thinging 20 = .ok (.aload_n 0, 1) := by decide +kernel
theorem dX12_thinging_21 : decode cX12_thinging 21 = .ok (.getfield 72, 3) := by decide +kernel
theorem dX12_thinging_24 : decode cX12_thinging 24 = .ok (.aload_n 0, 1) := by decide +kernel
theorem dX12_thinging_25 : decode cX12_thinging 25 = .ok (.getfield 109, 3) := by decide +kernel
theorem dX12_thinging_28 : decode cX12_thinging 28 = .ok (.iaload, 1) := by decide +kernel
theorem dX12_thinging_29 : decode cX12_thinging 29 = .ok (.iadd, 1) := by decide +kernel
theorem dX12_thinging_30 : decode cX12_thinging 30 = .ok (.iconst 0, 1) := by decide +kernel
theorem dX12_thinging_31 : decode cX12_thinging 31 = .ok (.iastore, 1) := by decide +kernel
theorem dX12_thinging_32 : decode cX12_thinging 32 = .ok (.aload_n 0, 1) := by decide +kernel
theorem dX12_thinging_33 : decode cX12_thinging 33 = .ok (.getfield 81, 3) := by decide +kernel
theorem dX12_thinging_36 : decode cX12_thinging 36 = .ok (.bipush 6, 2) := by decide +kernel
theorem dX12_thinging_38 : decode cX12_thinging 38 = .ok (.aload_n 0, 1) := by decide +kernel
theorem dX12_thinging_39 : decode cX12_thinging 39 = .ok (.getfield 109, 3) := by decide +kernel
theorem dX12_thinging_42 : decode cX12_thinging 42 = .ok (.imul, 1) := by decide +kernel
theorem dX12_thinging_43 : decode cX12_thinging 43 = .ok (.aload_n 0, 1) := by decide +kernel
theorem dX12_thinging_44 : decode cX12_thinging 44 = .ok (.getfield 72, 3) := by decide +kernel
theorem dX12_thinging_47 : decode cX12_thinging 47 = .ok (.aload_n 0, 1) := by decide +kernel
theorem dX12_thinging_48 : decode cX12_thinging 48 = .ok (.getfield 109, 3) := by decide +kernel
theorem dX12_thinging_51 : decode cX12_thinging 51 = .ok (.iaload, 1) := by decide +kernel
theorem dX12_thinging_52 : decode cX12_thinging 52 = .ok (.iadd, 1) := by decide +kernel
theorem dX12_thinging_53 : decode cX12_thinging 53 = .ok (.iconst (-1), 1) := by decide +kernel
theorem dX12_thinging_54 : decode cX12_thinging 54 = .ok (.iastore, 1) := by decide +kernel
theorem dX12_thinging_55 : decode cX12_thinging 55 = .ok (.aload_n 0, 1) := by decide +kernel
theorem dX12_thinging_56 : decode cX12_thinging 56 = .ok (.getfield 72, 3) := by decide +kernel
theorem dX12_thinging_59 : decode cX12_thinging 59 = .ok (.aload_n 0, 1) := by decide +kernel
theorem dX12_thinging_60 : decode cX12_thinging 60 = .ok (.getfield 109, 3) := by decide +kernel
theorem dX12_thinging_63 : decode cX12_thinging 63 = .ok (.dup2, 1) := by decide +kernel
theorem dX12_thinging_64 : decode cX12_thinging 64 = .ok (.iaload, 1) := by decide +kernel
theorem dX12_thinging_65 : decode cX12_thinging 65 = .ok (.iconst 1, 1) := by decide +kernel
theorem dX12_thinging_66 : decode cX12_thinging 66 = .ok (.iadd, 1) := by decide +kernel
theorem dX12_thinging_67 : decode cX12_thinging 67 = .ok (.iastore, 1) := by decide +kernel
theorem dX12_thinging_68 : decode cX12_thinging 68 = .ok (.return_, 1) := by decide +kernel
theorem dX12_lateness_0 : decode cX12_lateness 0 = .ok (.aload_n 0, 1) := by decide +kernel
theorem dX12_lateness_1 : decode cX12_lateness 1 = .ok (.iconst 0, 1) := by decide +kernel
theorem dX12_lateness_2 : decode cX12_lateness 2 = .ok (.invokevirtual 355, 3) := by decide +kernel
theorem dX12_lateness_5 : decode cX12_lateness 5 = .ok (.ifCond .ne 4, 3) := by decide +kernel
theorem dX12_lateness_8 : decode cX12_lateness 8 = .ok (.return_, 1) := by decide +kernel
theorem dX12_lateness_9 : decode cX12_lateness 9 = .ok (.aload_n 0, 1) := by decide +kernel
theorem dX12_lateness_10 : decode cX12_lateness 10 = .ok (.iconst 0, 1) := by decide +kernel
theorem dX12_lateness_11 : decode cX12_lateness 11 = .ok (.aload_n 0, 1) := by decide +kernel
theorem dX12_lateness_12 : decode cX12_lateness 12 = .ok (.getfield 60, 3) := by decide +kernel
theorem dX12_lateness_15 : decode cX12_lateness 15 = .ok (.aload_n 0, 1) := by decide +kernel
theorem dX12_lateness_16 : decode cX12_lateness 16 = .ok (.getfield 109, 3) := by decide +kernel
theorem dX12_lateness_19 : decode cX12_lateness 19 = .ok (.iaload, 1) := by decide +kernel
theorem dX12_lateness_20 : decode cX12_lateness 20 = .ok (.invokevirtual 378, 3) := by decide +kernel
theorem dX12_lateness_23 : decode cX12_lateness 23 = .ok (.istore_n 1, 1) := by decide +kernel
theorem dX12_lateness_24 : decode cX12_lateness 24 = .ok (.aload_n 0, 1) := by decide +kernel
theorem dX12_lateness_25 : decode cX12_lateness 25 = .ok (.getfield 36, 3) := by decide +kernel
theorem dX12_lateness_28 : decode cX12_lateness 28 = .ok (.ifCond .ne 18, 3) := by decide +kernel
theorem dX12_lateness_31 : decode cX12_lateness 31 = .ok (.aload_n 0, 1) := by decide +kernel
theorem dX12_lateness_32 : decode cX12_lateness 32 = .ok (.getfield 60, 3) := by decide +kernel
theorem dX12_lateness_35 : decode cX12_lateness 35 = .ok (.aload_n 0, 1) := by decide +kernel
theorem dX12_lateness_36 : decode cX12_lateness 36 = .ok (.getfield 109, 3) := by decide +kernel
theorem dX12_lateness_39 : decode cX12_lateness 39 = .ok (.dup2, 1) := by decide +kernel
theorem dX12_lateness_40 : decode cX12_lateness 40 = .ok (.iaload, 1) := by decide +kernel
theorem dX12_lateness_41 : decode cX12_lateness 41 = .ok (.iconst 1, 1) := by decide +kernel
theorem dX12_lateness_42 : decode cX12_lateness 42 = .ok (.iload_n 1, 1) := by decide +kernel
theorem dX12_lateness_43 : decode cX12_lateness 43 = .ok (.ishl, 1) := by decide +kernel
theorem dX12_lateness_44 : decode cX12_lateness 44 = .ok (.ior, 1) := by decide +kernel
theorem dX12_lateness_45 : decode cX12_lateness 45 = .ok (.iastore, 1) := by decide +kernel
theorem dX12_lateness_46 : decode cX12_lateness 46 = .ok (.return_, 1) := by decide +kernel
theorem dX12_nearing_0 : decode cX12_nearing 0 = .ok (.aload_n 0, 1) := by decide +kernel
theorem dX12_nearing_1 : decode cX12_nearing 1 = .ok (.iconst 0, 1) := by decide +kernel
theorem dX12_nearing_2 : decode cX12_nearing 2 = .ok (.invokevirtual 355, 3) := by decide +kernel
theorem dX12_nearing_5 : decode cX12_nearing 5 = .ok (.ifCond .ne 4, 3) := by decide +kernel
theorem dX12_nearing_8 : decode cX12_nearing 8 = .ok (.return_, 1) := by decide +kernel
theorem dX12_nearing_9 : decode cX12_nearing 9 = .ok (.aload_n 0, 1) := by decide +kernel
theorem dX12_nearing_10 : decode cX12_nearing 10 = .ok (.iconst 2, 1) := by decide +kernel
theorem dX12_nearing_11 : decode cX12_nearing 11 = .ok (.iconst 0, 1) := by decide +kernel
theorem dX12_nearing_12 : decode cX12_nearing 12 = .ok (.invokevirtual 378, 3) := by decide +kernel
theorem dX12_nearing_15 : decode cX12_nearing 15 = .ok (.istore_n 1, 1) := by decide +kernel
theorem dX12_nearing_16 : decode cX12_nearing 16 = .ok (.aload_n 0, 1) := by decide +kernel
theorem dX12_nearing_17 : decode cX12_nearing 17 = .ok (.getfield 36, 3) := by decide +kernel
theorem dX12_nearing_20 : decode cX12_nearing 20 = .ok (.ifCond .le 4, 3) := by decide +kernel
theorem dX12_nearing_23 : decode cX12_nearing 23 = .ok (.return_, 1) := by decide +kernel
theorem dX12_nearing_24 : decode cX12_nearing 24 = .ok (.aload_n 0, 1) := by decide +kernel
theorem dX12_nearing_25 : decode cX12_nearing 25 = .ok (.iconst 2, 1) := by decide +kernel
theorem dX12_nearing_26 : decode cX12_nearing 26 = .ok (.aload_n 0, 1) := by decide +kernel
theorem dX12_nearing_27 : decode cX12_nearing 27 = .ok (.getfield 78, 3) := by decide +kernel
theorem dX12_nearing_30 : decode cX12_nearing 30 = .ok (.bipush 6, 2) := by decide +kernel
theorem dX12_nearing_32 : decode cX12_nearing 32 = .ok (.aload_n 0, 1) := by decide +kernel
theorem dX12_nearing_33 : decode cX12_nearing 33 = .ok (.getfield 109, 3) := by decide +kernel
theorem dX12_nearing_36 : decode cX12_nearing 36 = .ok (.imul, 1) := by decide +kernel
theorem dX12_nearing_37 : decode cX12_nearing 37 = .ok (.iload_n 1, 1) := by decide +kernel
theorem dX12_nearing_38 : decode cX12_nearing 38 = .ok (.iadd, 1) := by decide +kernel
theorem dX12_nearing_39 : decode cX12_nearing 39 = .ok (.iaload, 1) := by decide +kernel
theorem dX12_nearing_40 : decode cX12_nearing 40 = .ok (.iconst 1, 1) := by decide +kernel
theorem dX12_nearing_41 : decode cX12_nearing 41 = .ok (.iload_n 1, 1) := by decide +kernel
theorem dX12_nearing_42 : decode cX12_nearing 42 = .ok (.ishl, 1) := by decide +kernel
theorem dX12_nearing_43 : decode cX12_nearing 43 = .ok (.ior, 1) := by decide +kernel
theorem dX12_nearing_44 : decode cX12_nearing 44 = .ok (.invokevirtual 378, 3) := by decide +kernel
theorem dX12_nearing_47 : decode cX12_nearing 47 = .ok (.istore_n 2, 1) := by decide +kernel
theorem dX12_nearing_48 : decode cX12_nearing 48 = .ok (.aload_n 0, 1) := by decide +kernel
theorem dX12_nearing_49 : decode cX12_nearing 49 = .ok (.getfield 36, 3) := by decide +kernel
theorem dX12_nearing_52 : decode cX12_nearing 52 = .ok (.ifCond .le 4, 3) := by decide +kernel
theorem dX12_nearing_55 : decode cX12_nearing 55 = .ok (.return_, 1) := by decide +kernel
theorem dX12_nearing_56 : decode cX12_nearing 56 = .ok (.aload_n 0, 1) := by decide +kernel
theorem dX12_nearing_57 : decode cX12_nearing 57 = .ok (.getfield 78, 3) := by decide +kernel
theorem dX12_nearing_60 : decode cX12_nearing 60 = .ok (.bipush 6, 2) := by decide +kernel
theorem dX12_nearing_62 : decode cX12_nearing 62 = .ok (.aload_n 0, 1) := by decide +kernel
theorem dX12_nearing_63 : decode cX12_nearing 63 = .ok (.getfield 109, 3) := by decide +kernel
theorem dX12_nearing_66 : decode cX12_nearing 66 = .ok (.imul, 1) := by decide +kernel
theorem dX12_nearing_67 : decode cX12_nearing 67 = .ok (.iload_n 1, 1) := by decide +kernel
theorem dX12_nearing_68 : decode cX12_nearing 68 = .ok (.iadd, 1) := by decide +kernel
theorem dX12_nearing_69 : decode cX12_nearing 69 = .ok (.dup2, 1) := by decide +kernel
theorem dX12_nearing_70 : decode cX12_nearing 70 = .ok (.iaload, 1) := by decide +kernel
theorem dX12_nearing_71 : decode cX12_nearing 71 = .ok (.iconst 1, 1) := by decide +kernel
theorem dX12_nearing_72 : decode cX12_nearing 72 = .ok (.iload_n 2, 1) := by decide +kernel
theorem dX12_nearing_73 : decode cX12_nearing 73 = .ok (.ishl, 1) := by decide +kernel
theorem dX12_nearing_74 : decode cX12_nearing 74 = .ok (.ior, 1) := by decide +kernel
theorem dX12_nearing_75 : decode cX12_nearing 75 = .ok (.iastore, 1) := by decide +kernel
theorem dX12_nearing_76 : decode cX12_nearing 76 = .ok (.aload_n 0, 1) := by decide +kernel
theorem dX12_nearing_77 : decode cX12_nearing 77 = .ok (.getfield 78, 3) := by decide +kernel
theorem dX12_nearing_80 : decode cX12_nearing 80 = .ok (.bipush 6, 2) := by decide +kernel
theorem dX12_nearing_82 : decode cX12_nearing 82 = .ok (.aload_n 0, 1) := by decide +kernel
theorem dX12_nearing_83 : decode cX12_nearing 83 = .ok (.getfield 109, 3) := by decide +kernel
theorem dX12_nearing_86 : decode cX12_nearing 86 = .ok (.imul, 1) := by decide +kernel
theorem dX12_nearing_87 : decode cX12_nearing 87 = .ok (.iload_n 2, 1) := by decide +kernel
theorem dX12_nearing_88 : decode cX12_nearing 88 = .ok (.iadd, 1) := by decide +kernel
theorem dX12_nearing_89 : decode cX12_nearing 89 = .ok (.dup2, 1) := by decide +kernel
theorem dX12_nearing_90 : decode cX12_nearing 90 = .ok (.iaload, 1) := by decide +kernel
theorem dX12_nearing_91 : decode cX12_nearing 91 = .ok (.iconst 1, 1) := by decide +kernel
theorem dX12_nearing_92 : decode cX12_nearing 92 = .ok (.iload_n 1, 1) := by decide +kernel
theorem dX12_nearing_93 : decode cX12_nearing 93 = .ok (.ishl, 1) := by decide +kernel
theorem dX12_nearing_94 : decode cX12_nearing 94 = .ok (.ior, 1) := by decide +kernel
theorem dX12_nearing_95 : decode cX12_nearing 95 = .ok (.iastore, 1) := by decide +kernel
theorem dX12_nearing_96 : decode cX12_nearing 96 = .ok (.return_, 1) := by decide +kernel
theorem dX12_wearing_0 : decode cX12_wearing 0 = .ok (.aload_n 0, 1) := by decide +kernel
theorem dX12_wearing_1 : decode cX12_wearing 1 = .ok (.iconst 0, 1) := by decide +kernel
theorem dX12_wearing_2 : decode cX12_wearing 2 = .ok (.invokevirtual 355, 3) := by decide +kernel
theorem dX12_wearing_5 : decode cX12_wearing 5 = .ok (.ifCond .ne 4, 3) := by decide +kernel
theorem dX12_wearing_8 : decode cX12_wearing 8 = .ok (.return_, 1) := by decide +kernel
theorem dX12_wearing_9 : decode cX12_wearing 9 = .ok (.aload_n 0, 1) := by decide +kernel
theorem dX12_wearing_10 : decode cX12_wearing 10 = .ok (.iconst 2, 1) := by decide +kernel
theorem dX12_wearing_11 : decode cX12_wearing 11 = .ok (.iconst 0, 1) := by decide +kernel
theorem dX12_wearing_12 : decode cX12_wearing 12 = .ok (.invokevirtual 378, 3) := by decide +kernel
theorem dX12_wearing_15 : decode cX12_wearing 15 = .ok (.istore_n 1, 1) := by decide +kernel
theorem dX12_wearing_16 : decode cX12_wearing 16 = .ok (.aload_n 0, 1) := by decide +kernel
theorem dX12_wearing_17 : decode cX12_wearing 17 = .ok (.iconst 1, 1) := by decide +kernel
theorem dX12_wearing_18 : decode cX12_wearing 18 = .ok (.iconst 0, 1) := by decide +kernel
theorem dX12_wearing_19 : decode cX12_wearing 19 = .ok (.invokevirtual 378, 3) := by decide +kernel
theorem dX12_wearing_22 : decode cX12_wearing 22 = .ok (.istore_n 2, 1) := by decide +kernel
theorem dX12_wearing_23 : decode cX12_wearing 23 = .ok (.aload_n 0, 1) := by decide +kernel
theorem dX12_wearing_24 : decode cX12_wearing 24 = .ok (.getfield 36, 3) := by decide +kernel
theorem dX12_wearing_27 : decode cX12_wearing 27 = .ok (.ifCond .ne 18, 3) := by decide +kernel
theorem dX12_wearing_30 : decode cX12_wearing 30 = .ok (.aload_n 0, 1) := by decide +kernel
theorem dX12_wearing_31 : decode cX12_wearing 31 = .ok (.getfield 81, 3) := by decide +kernel
theorem dX12_wearing_34 : decode cX12_wearing 34 = .ok (.bipush 6, 2) := by decide +kernel
theorem dX12_wearing_36 : decode cX12_wearing 36 = .ok (.aload_n 0, 1) := by decide +kernel
theorem dX12_wearing_37 : decode cX12_wearing 37 = .ok (.getfield 109, 3) := by decide +kernel
theorem dX12_wearing_40 : decode cX12_wearing 40 = .ok (.imul, 1) := by decide +kernel
theorem dX12_wearing_41 : decode cX12_wearing 41 = .ok (.iload_n 1, 1) := by decide +kernel
theorem dX12_wearing_42 : decode cX12_wearing 42 = .ok (.iadd, 1) := by decide +kernel
theorem dX12_wearing_43 : decode cX12_wearing 43 = .ok (.iload_n 2, 1) := by decide +kernel
theorem dX12_wearing_44 : decode cX12_wearing 44 = .ok (.iastore, 1) := by decide +kernel
theorem dX12_wearing_45 : decode cX12_wearing 45 = .ok (.return_, 1) := by decide +kernel
theorem dX12_reading_0 : decode cX12_reading 0 = .ok (.iconst 3, 1) := by decide +kernel
theorem dX12_reading_1 : decode cX12_reading 1 = .ok (.aload_n 0, 1) := by decide +kernel
theorem dX12_reading_2 : decode cX12_reading 2 = .ok (.getfield 109, 3) := by decide +kernel
theorem dX12_reading_5 : decode cX12_reading 5 = .ok (.imul, 1) := by decide +kernel
theorem dX12_reading_6 : decode cX12_reading 6 = .ok (.iload_n 1, 1) := by decide +kernel
theorem dX12_reading_7 : decode cX12_reading 7 = .ok (.iadd, 1) := by decide +kernel
theorem dX12_reading_8 : decode cX12_reading 8 = .ok (.istore_n 2, 1) := by decide +kernel
theorem dX12_reading_9 : decode cX12_reading 9 = .ok (.aload_n 0, 1) := by decide +kernel
theorem dX12_reading_10 : decode cX12_reading 10 = .ok (.aload_n 0, 1) := by decide +kernel
theorem dX12_reading_11 : decode cX12_reading 11 = .ok (.getfield 90, 3) := by decide +kernel
theorem dX12_reading_14 : decode cX12_reading 14 = .ok (.iload_n 2, 1) := by decide +kernel
theorem dX12_reading_15 : decode cX12_reading 15 = .ok (.iaload, 1) := by decide +kernel
theorem dX12_reading_16 : decode cX12_reading 16 = .ok (.iconst (-1), 1) := by decide +kernel
theorem dX12_reading_17 : decode cX12_reading 17 = .ok (.if_icmp .eq 7, 3) := by decide +kernel
theorem dX12_reading_20 : decode cX12_reading 20 = .ok (.iconst 1, 1) := by decide +kernel
theorem dX12_reading_21 : decode cX12_reading 21 = .ok (.goto 4, 3) := by decide +kernel
theorem dX12_reading_24 : decode cX12_reading 24 = .ok (.iconst 0, 1) := by decide +kernel
theorem dX12_reading_25 : decode cX12_reading 25 = .ok (.invokevirtual 355, 3) := by decide +kernel
theorem dX12_reading_28 : decode cX12_reading 28 = .ok (.ifCond .ne 4, 3) := by decide +kernel
theorem dX12_reading_31 : decode cX12_reading 31 = .ok (.return_, 1) := by decide +kernel
theorem dX12_reading_32 : decode cX12_reading 32 = .ok (.aload_n 0, 1) := by decide +kernel
theorem dX12_reading_33 : decode cX12_reading 33 = .ok (.iload_n 1, 1) := by decide +kernel
theorem dX12_reading_34 : decode cX12_reading 34 = .ok (.putfield 112, 3) := by decide +kernel
theorem dX12_reading_37 : decode cX12_reading 37 = .ok (.aload_n 0, 1) := by decide +kernel
theorem dX12_reading_38 : decode cX12_reading 38 = .ok (.getfield 90, 3) := by decide +kernel
theorem dX12_reading_41 : decode cX12_reading 41 = .ok (.iload_n 2, 1) := by decide +kernel
theorem dX12_reading_42 : decode cX12_reading 42 = .ok (.aload_n 0, 1) := by decide +kernel
theorem dX12_reading_43 : decode cX12_reading 43 = .ok (.getfield 106, 3) := by decide +kernel
theorem dX12_reading_46 : decode cX12_reading 46 = .ok (.iastore, 1) := by decide +kernel
theorem dX12_reading_47 : decode cX12_reading 47 = .ok (.aload_n 0, 1) := by decide +kernel
theorem dX12_reading_48 : decode cX12_reading 48 = .ok (.iload_n 1, 1) := by decide +kernel
theorem dX12_reading_49 : decode cX12_reading 49 = .ok (.iconst 1, 1) := by decide +kernel
theorem dX12_reading_50 : decode cX12_reading 50 = .ok (.if_icmp .ne 7, 3) := by decide +kernel
theorem dX12_reading_53 : decode cX12_reading 53 = .ok (.iconst 1, 1) := by decide +kernel
theorem dX12_reading_54 : decode cX12_reading 54 = .ok (.goto 4, 3) := by decide +kernel
theorem dX12_reading_57 : decode cX12_reading 57 = .ok (.iconst 0, 1) := by decide +kernel
theorem dX12_reading_58 : decode cX12_reading 58 = .ok (.invokevirtual 381, 3) := by decide +kernel
theorem dX12_reading_61 : decode cX12_reading 61 = .ok (.aload_n 0, 1) := by decide +kernel
theorem dX12_reading_62 : decode cX12_reading 62 = .ok (.getfield 93, 3) := by decide +kernel
theorem dX12_reading_65 : decode cX12_reading 65 = .ok (.iload_n 2, 1) := by decide +kernel
theorem dX12_reading_66 : decode cX12_reading 66 = .ok (.aload_n 0, 1) := by decide +kernel
theorem dX12_reading_67 : decode cX12_reading 67 = .ok (.getfield 106, 3) := by decide +kernel
theorem dX12_reading_70 : decode cX12_reading 70 = .ok (.iastore, 1) := by decide +kernel
theorem dX12_reading_71 : decode cX12_reading 71 = .ok (.return_, 1) := by decide +kernel
theorem dX12_statement_0 : decode cX12_statement 0 = .ok (.aload_n 0, 1) := by decide +kernel
theorem dX12_statement_1 : decode cX12_statement 1 = .ok (.invokevirtual 241, 3) := by decide +kernel
theorem dX12_statement_4 : decode cX12_statement 4 = .ok (.aload_n 0, 1) := by decide +kernel
theorem dX12_statement_5 : decode cX12_statement 5 = .ok (.getfield 36, 3) := by decide +kernel
theorem dX12_statement_8 : decode cX12_statement 8 = .ok (.ifCond .le 4, 3) := by decide +kernel
theorem dX12_statement_11 : decode cX12_statement 11 = .ok (.return_, 1) := by decide +kernel
theorem dX12_statement_12 : decode cX12_statement 12 = .ok (.aload_n 0, 1) := by decide +kernel
theorem dX12_statement_13 : decode cX12_statement 13 = .ok (.ldc2_w 250, 3) := by decide +kernel
theorem dX12_statement_16 : decode cX12_statement 16 = .ok (.invokevirtual 325, 3) := by decide +kernel
theorem dX12_statement_19 : decode cX12_statement 19 = .ok (.ifCond .eq 10, 3) := by decide +kernel
theorem dX12_statement_22 : decode cX12_statement 22 = .ok (.aload_n 0, 1) := by decide +kernel
theorem dX12_statement_23 : decode cX12_statement 23 = .ok (.invokevirtual 385, 3) := by decide +kernel
theorem dX12_statement_26 : decode cX12_statement 26 = .ok (.goto 208, 3) := by decide +kernel
theorem dX12_statement_29 : decode cX12_statement 29 = .ok (.aload_n 0, 1) := by decide +kernel
theorem dX12_statement_30 : decode cX12_statement 30 = .ok (.ldc2_w 258, 3) := by decide +kernel
theorem dX12_statement_33 : decode cX12_statement 33 = .ok (.invokevirtual 325, 3) := by decide +kernel
theorem dX12_statement_36 : decode cX12_statement 36 = .ok (.ifCond .eq 10, 3) := by decide +kernel
theorem dX12_statement_39 : decode cX12_statement 39 = .ok (.aload_n 0, 1) := by decide +kernel
theorem dX12_statement_40 : decode cX12_statement 40 = .ok (.invokevirtual 388, 3) := by decide +kernel
theorem dX12_statement_43 : decode cX12_statement 43 = .ok (.goto 191, 3) := by decide +kernel
theorem dX12_statement_46 : decode cX12_statement 46 = .ok (.aload_n 0, 1) := by decide +kernel
theorem dX12_statement_47 : decode cX12_statement 47 = .ok (.ldc2_w 262, 3) := by decide +kernel
theorem dX12_statement_50 : decode cX12_statement 50 = .ok (.invokevirtual 325, 3) := by decide +kernel
theorem dX12_statement_53 : decode cX12_statement 53 = .ok (.ifCond .eq 10, 3) := by decide +kernel
theorem dX12_statement_56 : decode cX12_statement 56 = .ok (.aload_n 0, 1) := by decide +kernel
theorem dX12_statement_57 : decode cX12_statement 57 = .ok (.invokevirtual 391, 3) := by decide +kernel
theorem dX12_statement_60 : decode cX12_statement 60 = .ok (.goto 174, 3) := by decide +kernel
theorem dX12_statement_63 : decode cX12_statement 63 = .ok (.aload_n 0, 1) := by decide +kernel
theorem dX12_statement_64 : decode cX12_statement 64 = .ok (.ldc2_w 264, 3) := by decide +kernel
theorem dX12_statement_67 : decode cX12_statement 67 = .ok (.invokevirtual 325, 3) := by decide +kernel
theorem dX12_statement_70 : decode cX12_statement 70 = .ok (.ifCond .eq 10, 3) := by decide +kernel
theorem dX12_statement_73 : decode cX12_statement 73 = .ok (.aload_n 0, 1) := by decide +kernel
theorem dX12_statement_74 : decode cX12_statement 74 = .ok (.invokevirtual 394, 3) := by decide +kernel
theorem dX12_statement_77 : decode cX12_statement 77 = .ok (.goto 157, 3) := by decide +kernel
theorem dX12_statement_80 : decode cX12_statement 80 = .ok (.aload_n 0, 1) := by decide +kernel
theorem dX12_statement_81 : decode cX12_statement 81 = .ok (.ldc2_w 266, 3) := by decide +kernel
theorem dX12_statement_84 : decode cX12_statement 84 = .ok (.invokevirtual 325, 3) := by decide +kernel
theorem dX12_statement_87 : decode cX12_statement 87 = .ok (.ifCond .eq 10, 3) := by decide +kernel
theorem dX12_statement_90 : decode cX12_statement 90 = .ok (.aload_n 0, 1) := by decide +kernel
theorem dX12_statement_91 : decode cX12_statement 91 = .ok (.invokevirtual 397, 3) := by decide +kernel
theorem dX12_statement_94 : decode cX12_statement 94 = .ok (.goto 140, 3) := by decide +kernel
theorem dX12_statement_97 : decode cX12_statement 97 = .ok (.aload_n 0, 1) := by decide +kernel
theorem dX12_statement_98 : decode cX12_statement 98 = .ok (.ldc2_w 268, 3) := by decide +kernel
theorem dX12_statement_101 : decode cX12_statement 101 = .ok (.invokevirtual 325, 3) := by decide +kernel
theorem dX12_statement_104 : decode cX12_statement 104 = .ok (.ifCond .eq 10, 3) := by decide +kernel
theorem dX12_statement_107 : decode cX12_statement 107 = .ok (.aload_n 0, 1) := by decide +kernel
theorem dX12_statement_108 : decode cX12_statement 108 = .ok (.invokevirtual 400, 3) := by decide +kernel
theorem dX12_statement_111 : decode cX12_statement 111 = .ok (.goto 123, 3) := by decide +kernel
theorem dX12_statement_114 : decode cX12_statement 114 = .ok (.aload_n 0, 1) := by decide +kernel
theorem dX12_statement_115 : decode cX12_statement 115 = .ok (.ldc2_w 270, 3) := by decide +kernel
theorem dX12_statement_118 : decode cX12_statement 118 = .ok (.invokevirtual 325, 3) := by decide +kernel
theorem dX12_statement_121 : decode cX12_statement 121 = .ok (.ifCond .eq 22, 3) := by decide +kernel
theorem dX12_statement_124 : decode cX12_statement 124 = .ok (.aload_n 0, 1) := by decide +kernel
theorem dX12_statement_125 : decode cX12_statement 125 = .ok (.getfield 84, 3) := by decide +kernel
theorem dX12_statement_128 : decode cX12_statement 128 = .ok (.aload_n 0, 1) := by decide +kernel
theorem dX12_statement_129 : decode cX12_statement 129 = .ok (.getfield 109, 3) := by decide +kernel
theorem dX12_statement_132 : decode cX12_statement 132 = .ok (.aload_n 0, 1) := by decide +kernel
theorem dX12_statement_133 : decode cX12_statement 133 = .ok (.sipush 999, 3) := by decide +kernel
theorem dX12_statement_136 : decode cX12_statement 136 = .ok (.invokevirtual 403, 3) := by decide +kernel
theorem dX12_statement_139 : decode cX12_statement 139 = .ok (.iastore, 1) := by decide +kernel
theorem dX12_statement_140 : decode cX12_statement 140 = .ok (.goto 94, 3) := by decide +kernel
theorem dX12_statement_143 : decode cX12_statement 143 = .ok (.aload_n 0, 1) := by decide +kernel
theorem dX12_statement_144 : decode cX12_statement 144 = .ok (.ldc2_w 272, 3) := by decide +kernel
theorem dX12_statement_147 : decode cX12_statement 147 = .ok (.invokevirtual 325, 3) := by decide +kernel
theorem dX12_statement_150 : decode cX12_statement 150 = .ok (.ifCond .eq 21, 3) := by decide +kernel
theorem dX12_statement_153 : decode cX12_statement 153 = .ok (.aload_n 0, 1) := by decide +kernel
theorem dX12_statement_154 : decode cX12_statement 154 = .ok (.getfield 87, 3) := by decide +kernel
theorem dX12_statement_157 : decode cX12_statement 157 = .ok (.aload_n 0, 1) := by decide +kernel
theorem dX12_statement_158 : decode cX12_statement 158 = .ok (.getfield 109, 3) := by decide +kernel
theorem dX12_statement_161 : decode cX12_statement 161 = .ok (.aload_n 0, 1) := by decide +kernel
theorem dX12_statement_162 : decode cX12_statement 162 = .ok (.bipush 100, 2) := by decide +kernel
theorem dX12_statement_164 : decode cX12_statement 164 = .ok (.invokevirtual 403, 3) := by decide +kernel
theorem dX12_statement_167 : decode cX12_statement 167 = .ok (.iastore, 1) := by decide +kernel
theorem dX12_statement_168 : decode cX12_statement 168 = .ok (.goto 66, 3) := by decide +kernel
theorem dX12_statement_171 : decode cX12_statement 171 = .ok (.aload_n 0, 1) := by decide +kernel
theorem dX12_statement_172 : decode cX12_statement 172 = .ok (.ldc2_w 274, 3) := by decide +kernel
theorem dX12_statement_175 : decode cX12_statement 175 = .ok (.invokevirtual 325, 3) := by decide +kernel
theorem dX12_statement_178 : decode cX12_statement 178 = .ok (.ifCond .eq 11, 3) := by decide +kernel
theorem dX12_statement_181 : decode cX12_statement 181 = .ok (.aload_n 0, 1) := by decide +kernel
theorem dX12_statement_182 : decode cX12_statement 182 = .ok (.iconst 0, 1) := by decide +kernel
theorem dX12_statement_183 : decode cX12_statement 183 = .ok (.invokevirtual 406, 3) := by decide +kernel
theorem dX12_statement_186 : decode cX12_statement 186 = .ok (.goto 48, 3) := by decide +kernel
theorem dX12_statement_189 : decode cX12_statement 189 = .ok (.aload_n 0, 1) := by decide +kernel
theorem dX12_statement_190 : decode cX12_statement 190 = .ok (.ldc2_w 276, 3) := by decide +kernel
theorem dX12_statement_193 : decode cX12_statement 193 = .ok (.invokevirtual 325, 3) := by decide +kernel
theorem dX12_statement_196 : decode cX12_statement 196 = .ok (.ifCond .eq 11, 3) := by decide +kernel
theorem dX12_statement_199 : decode cX12_statement 199 = .ok (.aload_n 0, 1) := by decide +kernel
theorem dX12_statement_200 : decode cX12_statement 200 = .ok (.iconst 1, 1) := by decide +kernel
theorem dX12_statement_201 : decode cX12_statement 201 = .ok (.invokevirtual 406, 3) := by decide +kernel
theorem dX12_statement_204 : decode cX12_statement 204 = .ok (.goto 30, 3) := by decide +kernel
theorem dX12_statement_207 : decode cX12_statement 207 = .ok (.aload_n 0, 1) := by decide +kernel
theorem dX12_statement_208 : decode cX12_statement 208 = .ok (.ldc2_w 278, 3) := by decide +kernel
theorem dX12_statement_211 : decode cX12_statement 211 = .ok (.invokevirtual 325, 3) := by decide +kernel
theorem dX12_statement_214 : decode cX12_statement 214 = .ok (.ifCond .eq 11, 3) := by decide +kernel
theorem dX12_statement_217 : decode cX12_statement 217 = .ok (.aload_n 0, 1) := by decide +kernel
theorem dX12_statement_218 : decode cX12_statement 218 = .ok (.iconst 2, 1) := by decide +kernel
theorem dX12_statement_219 : decode cX12_statement 219 = .ok (.invokevirtual 406, 3) := by decide +kernel
theorem dX12_statement_222 : decode cX12_statement 222 = .ok (.goto 12, 3) := by decide +kernel
theorem dX12_statement_225 : decode cX12_statement 225 = .ok (.aload_n 0, 1) := by decide +kernel
theorem dX12_statement_226 : decode cX12_statement 226 = .ok (.iconst 1, 1) := by decide +kernel
theorem dX12_statement_227 : decode cX12_statement 227 = .ok (.aload_n 0, 1) := by decide +kernel
theorem dX12_statement_228 : decode cX12_statement 228 = .ok (.getfield 23, 3) := by decide +kernel
theorem dX12_statement_231 : decode cX12_statement 231 = .ok (.invokevirtual 230, 3) := by decide +kernel
theorem dX12_statement_234 : decode cX12_statement 234 = .ok (.return_, 1) := by decide +kernel
theorem dX12_finishes_0 : decode cX12_finishes 0 = .ok (.aload_n 0, 1) := by decide +kernel
theorem dX12_finishes_1 : decode cX12_finishes 1 = .ok (.invokevirtual 241, 3) := by decide +kernel
theorem dX12_finishes_4 : decode cX12_finishes 4 = .ok (.aload_n 0, 1) := by decide +kernel
theorem dX12_finishes_5 : decode cX12_finishes 5 = .ok (.getfield 36, 3) := by decide +kernel
theorem dX12_finishes_8 : decode cX12_finishes 8 = .ok (.ifCond .le 4, 3) := by decide +kernel
theorem dX12_finishes_11 : decode cX12_finishes 11 = .ok (.return_, 1) := by decide +kernel
theorem dX12_finishes_12 : decode cX12_finishes 12 = .ok (.aload_n 0, 1) := by decide +kernel
theorem dX12_finishes_13 : decode cX12_finishes 13 = .ok (.getfield 26, 3) := by decide +kernel
theorem dX12_finishes_16 : decode cX12_finishes 16 = .ok (.istore_n 2, 1) := by decide +kernel
theorem dX12_finishes_17 : decode cX12_finishes 17 = .ok (.iload_n 2, 1) := by decide +kernel
theorem dX12_finishes_18 : decode cX12_finishes 18 = .ok (.aload_n 0, 1) := by decide +kernel
theorem dX12_finishes_19 : decode cX12_finishes 19 = .ok (.getfield 17, 3) := by decide +kernel
theorem dX12_finishes_22 : decode cX12_finishes 22 = .ok (.if_icmp .ge 31, 3) := by decide +kernel
theorem dX12_finishes_25 : decode cX12_finishes 25 = .ok (.aload_n 0, 1) := by decide +kernel
theorem dX12_finishes_26 : decode cX12_finishes 26 = .ok (.getfield 7, 3) := by decide +kernel
theorem dX12_finishes_29 : decode cX12_finishes 29 = .ok (.iload_n 2, 1) := by decide +kernel
theorem dX12_finishes_30 : decode cX12_finishes 30 = .ok (.iaload, 1) := by decide +kernel
theorem dX12_finishes_31 : decode cX12_finishes 31 = .ok (.bipush 32, 2) := by decide +kernel
theorem dX12_finishes_33 : decode cX12_finishes 33 = .ok (.if_icmp .eq 14, 3) := by decide +kernel
theorem dX12_finishes_36 : decode cX12_finishes 36 = .ok (.aload_n 0, 1) := by decide +kernel
theorem dX12_finishes_37 : decode cX12_finishes 37 = .ok (.getfield 7, 3) := by decide +kernel
theorem dX12_finishes_40 : decode cX12_finishes 40 = .ok (.iload_n 2, 1) := by decide +kernel
theorem dX12_finishes_41 : decode cX12_finishes 41 = .ok (.iaload, 1) := by decide +kernel
theorem dX12_finishes_42 : decode cX12_finishes 42 = .ok (.bipush 10, 2) := by decide +kernel
theorem dX12_finishes_44 : decode cX12_finishes 44 = .ok (.if_icmp .ne 9, 3) := by decide +kernel
theorem dX12_finishes_47 : decode cX12_finishes 47 = .ok (.iinc 2 1, 3) := by decide +kernel
theorem dX12_finishes_50 : decode cX12_finishes 50 = .ok (.goto (-33), 3) := by decide +kernel
theorem dX12_finishes_53 : decode cX12_finishes 53 = .ok (.aload_n 0, 1) := by decide +kernel
theorem dX12_finishes_54 : decode cX12_finishes 54 = .ok (.bipush 59, 2) := by decide +kernel
theorem dX12_finishes_56 : decode cX12_finishes 56 = .ok (.invokevirtual 244, 3) := by decide +kernel
theorem dX12_finishes_59 : decode cX12_finishes 59 = .ok (.ifCond .eq 24, 3) := by decide +kernel
theorem dX12_finishes_62 : decode cX12_finishes 62 = .ok (.iload_n 1, 1) := by decide +kernel
theorem dX12_finishes_63 : decode cX12_finishes 63 = .ok (.bipush 60, 2) := by decide +kernel
theorem dX12_finishes_65 : decode cX12_finishes 65 = .ok (.if_icmp .ne 18, 3) := by decide +kernel
theorem dX12_finishes_68 : decode cX12_finishes 68 = .ok (.iload_n 2, 1) := by decide +kernel
theorem dX12_finishes_69 : decode cX12_finishes 69 = .ok (.aload_n 0, 1) := by decide +kernel
theorem dX12_finishes_70 : decode cX12_finishes 70 = .ok (.getfield 17, 3) := by decide +kernel
theorem dX12_finishes_73 : decode cX12_finishes 73 = .ok (.if_icmp .ge 10, 3) := by decide +kernel
theorem dX12_finishes_76 : decode cX12_finishes 76 = .ok (.aload_n 0, 1) := by decide +kernel
theorem dX12_finishes_77 : decode cX12_finishes 77 = .ok (.bipush 6, 2) := by decide +kernel
theorem dX12_finishes_79 : decode cX12_finishes 79 = .ok (.iload_n 2, 1) := by decide +kernel
theorem dX12_finishes_80 : decode cX12_finishes 80 = .ok (.invokevirtual 230, 3) := by decide +kernel
theorem dX12_finishes_83 : decode cX12_finishes 83 = .ok (.aload_n 0, 1) := by decide +kernel
theorem dX12_finishes_84 : decode cX12_finishes 84 = .ok (.bipush 59, 2) := by decide +kernel
theorem dX12_finishes_86 : decode cX12_finishes 86 = .ok (.invokevirtual 409, 3) := by decide +kernel
theorem dX12_finishes_89 : decode cX12_finishes 89 = .ok (.return_, 1) := by decide +kernel
theorem dX12_land_0 : decode cX12_land 0 = .ok (.aload_n 0, 1) := by decide +kernel
theorem dX12_land_1 : decode cX12_land 1 = .ok (.aload_n 0, 1) := by decide +kernel
theorem dX12_land_2 : decode cX12_land 2 = .ok (.getfield 13, 3) := by decide +kernel
theorem dX12_land_5 : decode cX12_land 5 = .ok (.putfield 17, 3) := by decide +kernel
theorem dX12_land_8 : decode cX12_land 8 = .ok (.aload_n 0, 1) := by decide +kernel
theorem dX12_land_9 : decode cX12_land 9 = .ok (.iconst 0, 1) := by decide +kernel
theorem dX12_land_10 : decode cX12_land 10 = .ok (.putfield 13, 3) := by decide +kernel
theorem dX12_land_13 : decode cX12_land 13 = .ok (.aload_n 0, 1) := by decide +kernel
theorem dX12_land_14 : decode cX12_land 14 = .ok (.iconst 0, 1) := by decide +kernel
theorem dX12_land_15 : decode cX12_land 15 = .ok (.putfield 26, 3) := by decide +kernel
theorem dX12_land_18 : decode cX12_land 18 = .ok (.aload_n 0, 1) := by decide +kernel
theorem dX12_land_19 : decode cX12_land 19 = .ok (.iconst 0, 1) := by decide +kernel
theorem dX12_land_20 : decode cX12_land 20 = .ok (.putfield 36, 3) := by decide +kernel
theorem dX12_land_23 : decode cX12_land 23 = .ok (.aload_n 0, 1) := by decide +kernel
theorem dX12_land_24 : decode cX12_land 24 = .ok (.iconst (-1), 1) := by decide +kernel
theorem dX12_land_25 : decode cX12_land 25 = .ok (.putfield 39, 3) := by decide +kernel
theorem dX12_land_28 : decode cX12_land 28 = .ok (.aload_n 0, 1) := by decide +kernel
theorem dX12_land_29 : decode cX12_land 29 = .ok (.iconst 1, 1) := by decide +kernel
theorem dX12_land_30 : decode cX12_land 30 = .ok (.aload_n 0, 1) := by decide +kernel
theorem dX12_land_31 : decode cX12_land 31 = .ok (.getfield 51, 3) := by decide +kernel
theorem dX12_land_34 : decode cX12_land 34 = .ok (.isub, 1) := by decide +kernel
theorem dX12_land_35 : decode cX12_land 35 = .ok (.putfield 109, 3) := by decide +kernel
theorem dX12_land_38 : decode cX12_land 38 = .ok (.aload_n 0, 1) := by decide +kernel
theorem dX12_land_39 : decode cX12_land 39 = .ok (.getfield 54, 3) := by decide +kernel
theorem dX12_land_42 : decode cX12_land 42 = .ok (.aload_n 0, 1) := by decide +kernel
theorem dX12_land_43 : decode cX12_land 43 = .ok (.getfield 109, 3) := by decide +kernel
theorem dX12_land_46 : decode cX12_land 46 = .ok (.iconst 0, 1) := by decide +kernel
theorem dX12_land_47 : decode cX12_land 47 = .ok (.iastore, 1) := by decide +kernel
theorem dX12_land_48 : decode cX12_land 48 = .ok (.aload_n 0, 1) := by decide +kernel
theorem dX12_land_49 : decode cX12_land 49 = .ok (.getfield 60, 3) := by decide +kernel
theorem dX12_land_52 : decode cX12_land 52 = .ok (.aload_n 0, 1) := by decide +kernel
theorem dX12_land_53 : decode cX12_land 53 = .ok (.getfield 109, 3) := by decide +kernel
theorem dX12_land_56 : decode cX12_land 56 = .ok (.iconst 0, 1) := by decide +kernel
theorem dX12_land_57 : decode cX12_land 57 = .ok (.iastore, 1) := by decide +kernel
theorem dX12_land_58 : decode cX12_land 58 = .ok (.aload_n 0, 1) := by decide +kernel
theorem dX12_land_59 : decode cX12_land 59 = .ok (.getfield 63, 3) := by decide +kernel
theorem dX12_land_62 : decode cX12_land 62 = .ok (.aload_n 0, 1) := by decide +kernel
theorem dX12_land_63 : decode cX12_land 63 = .ok (.getfield 109, 3) := by decide +kernel
theorem dX12_land_66 : decode cX12_land 66 = .ok (.iconst 0, 1) := by decide +kernel
theorem dX12_land_67 : decode cX12_land 67 = .ok (.iastore, 1) := by decide +kernel
theorem dX12_land_68 : decode cX12_land 68 = .ok (.aload_n 0, 1) := by decide +kernel
theorem dX12_land_69 : decode cX12_land 69 = .ok (.getfield 72, 3) := by decide +kernel
theorem dX12_land_72 : decode cX12_land 72 = .ok (.aload_n 0, 1) := by decide +kernel
theorem dX12_land_73 : decode cX12_land 73 = .ok (.getfield 109, 3) := by decide +kernel
theorem dX12_land_76 : decode cX12_land 76 = .ok (.iconst 0, 1) := by decide +kernel
theorem dX12_land_77 : decode cX12_land 77 = .ok (.iastore, 1) := by decide +kernel
theorem dX12_land_78 : decode cX12_land 78 = .ok (.aload_n 0, 1) := by decide +kernel
theorem dX12_land_79 : decode cX12_land 79 = .ok (.getfield 84, 3) := by decide +kernel
theorem dX12_land_82 : decode cX12_land 82 = .ok (.aload_n 0, 1) := by decide +kernel
theorem dX12_land_83 : decode cX12_land 83 = .ok (.getfield 109, 3) := by decide +kernel
theorem dX12_land_86 : decode cX12_land 86 = .ok (.iconst 0, 1) := by decide +kernel
theorem dX12_land_87 : decode cX12_land 87 = .ok (.iastore, 1) := by decide +kernel
theorem dX12_land_88 : decode cX12_land 88 = .ok (.aload_n 0, 1) := by decide +kernel
theorem dX12_land_89 : decode cX12_land 89 = .ok (.getfield 87, 3) := by decide +kernel
theorem dX12_land_92 : decode cX12_land 92 = .ok (.aload_n 0, 1) := by decide +kernel
theorem dX12_land_93 : decode cX12_land 93 = .ok (.getfield 109, 3) := by decide +kernel
theorem dX12_land_96 : decode cX12_land 96 = .ok (.iconst 0, 1) := by decide +kernel
theorem dX12_land_97 : decode cX12_land 97 = .ok (.iastore, 1) := by decide +kernel
theorem dX12_land_98 : decode cX12_land 98 = .ok (.iconst 3, 1) := by decide +kernel
theorem dX12_land_99 : decode cX12_land 99 = .ok (.aload_n 0, 1) := by decide +kernel
theorem dX12_land_100 : decode cX12_land 100 = .ok (.getfield 109, 3) := by decide +kernel
theorem dX12_land_103 : decode cX12_land 103 = .ok (.imul, 1) := by decide +kernel
theorem dX12_land_104 : decode cX12_land 104 = .ok (.istore_n 1, 1) := by decide +kernel
theorem dX12_land_105 : decode cX12_land 105 = .ok (.iload_n 1, 1) := by decide +kernel
theorem dX12_land_106 : decode cX12_land 106 = .ok (.iconst 3, 1) := by decide +kernel
theorem dX12_land_107 : decode cX12_land 107 = .ok (.aload_n 0, 1) := by decide +kernel
theorem dX12_land_108 : decode cX12_land 108 = .ok (.getfield 109, 3) := by decide +kernel
theorem dX12_land_111 : decode cX12_land 111 = .ok (.imul, 1) := by decide +kernel
theorem dX12_land_112 : decode cX12_land 112 = .ok (.iconst 3, 1) := by decide +kernel
theorem dX12_land_113 : decode cX12_land 113 = .ok (.iadd, 1) := by decide +kernel
theorem dX12_land_114 : decode cX12_land 114 = .ok (.if_icmp .ge 16, 3) := by decide +kernel
theorem dX12_land_117 : decode cX12_land 117 = .ok (.aload_n 0, 1) := by decide +kernel
theorem dX12_land_118 : decode cX12_land 118 = .ok (.getfield 90, 3) := by decide +kernel
theorem dX12_land_121 : decode cX12_land 121 = .ok (.iload_n 1, 1) := by decide +kernel
theorem dX12_land_122 : decode cX12_land 122 = .ok (.iconst (-1), 1) := by decide +kernel
theorem dX12_land_123 : decode cX12_land 123 = .ok (.iastore, 1) := by decide +kernel
theorem dX12_land_124 : decode cX12_land 124 = .ok (.iinc 1 1, 3) := by decide +kernel
theorem dX12_land_127 : decode cX12_land 127 = .ok (.goto (-22), 3) := by decide +kernel
theorem dX12_land_130 : decode cX12_land 130 = .ok (.aload_n 0, 1) := by decide +kernel
theorem dX12_land_131 : decode cX12_land 131 = .ok (.iconst 0, 1) := by decide +kernel
theorem dX12_land_132 : decode cX12_land 132 = .ok (.putfield 106, 3) := by decide +kernel
theorem dX12_land_135 : decode cX12_land 135 = .ok (.iconst 0, 1) := by decide +kernel
theorem dX12_land_136 : decode cX12_land 136 = .ok (.istore_n 1, 1) := by decide +kernel
theorem dX12_land_137 : decode cX12_land 137 = .ok (.aload_n 0, 1) := by decide +kernel
theorem dX12_land_138 : decode cX12_land 138 = .ok (.invokevirtual 247, 3) := by decide +kernel
theorem dX12_land_141 : decode cX12_land 141 = .ok (.aload_n 0, 1) := by decide +kernel
theorem dX12_land_142 : decode cX12_land 142 = .ok (.getfield 36, 3) := by decide +kernel
theorem dX12_land_145 : decode cX12_land 145 = .ok (.ifCond .ne 25, 3) := by decide +kernel
theorem dX12_land_148 : decode cX12_land 148 = .ok (.aload_n 0, 1) := by decide +kernel
theorem dX12_land_149 : decode cX12_land 149 = .ok (.getfield 20, 3) := by decide +kernel
theorem dX12_land_152 : decode cX12_land 152 = .ok (.ifCond .eq 18, 3) := by decide +kernel
theorem dX12_land_155 : decode cX12_land 155 = .ok (.aload_n 0, 1) := by decide +kernel
theorem dX12_land_156 : decode cX12_land 156 = .ok (.invokevirtual 412, 3) := by decide +kernel
theorem dX12_land_159 : decode cX12_land 159 = .ok (.iinc 1 1, 3) := by decide +kernel
theorem dX12_land_162 : decode cX12_land 162 = .ok (.aload_n 0, 1) := by decide +kernel
theorem dX12_land_163 : decode cX12_land 163 = .ok (.iload_n 1, 1) := by decide +kernel
theorem dX12_land_164 : decode cX12_land 164 = .ok (.invokevirtual 415, 3) := by decide +kernel
theorem dX12_land_167 : decode cX12_land 167 = .ok (.goto (-26), 3) := by decide +kernel
theorem dX12_land_170 : decode cX12_land 170 = .ok (.aload_n 0, 1) := by decide +kernel
theorem dX12_land_171 : decode cX12_land 171 = .ok (.aload_n 0, 1) := by decide +kernel
theorem dX12_land_172 : decode cX12_land 172 = .ok (.getfield 36, 3) := by decide +kernel
theorem dX12_land_175 : decode cX12_land 175 = .ok (.putfield 42, 3) := by decide +kernel
theorem dX12_land_178 : decode cX12_land 178 = .ok (.aload_n 0, 1) := by decide +kernel
theorem dX12_land_179 : decode cX12_land 179 = .ok (.aload_n 0, 1) := by decide +kernel
theorem dX12_land_180 : decode cX12_land 180 = .ok (.getfield 39, 3) := by decide +kernel
theorem dX12_land_183 : decode cX12_land 183 = .ok (.putfield 45, 3) := by decide +kernel
theorem dX12_land_186 : decode cX12_land 186 = .ok (.aload_n 0, 1) := by decide +kernel
theorem dX12_land_187 : decode cX12_land 187 = .ok (.getfield 36, 3) := by decide +kernel
theorem dX12_land_190 : decode cX12_land 190 = .ok (.ifCond .le 9, 3) := by decide +kernel
theorem dX12_land_193 : decode cX12_land 193 = .ok (.aload_n 0, 1) := by decide +kernel
theorem dX12_land_194 : decode cX12_land 194 = .ok (.iconst 1, 1) := by decide +kernel
theorem dX12_land_195 : decode cX12_land 195 = .ok (.invokevirtual 222, 3) := by decide +kernel
theorem dX12_land_198 : decode cX12_land 198 = .ok (.ireturn, 1) := by decide +kernel
theorem dX12_land_199 : decode cX12_land 199 = .ok (.aload_n 0, 1) := by decide +kernel
theorem dX12_land_200 : decode cX12_land 200 = .ok (.aload_n 0, 1) := by decide +kernel
theorem dX12_land_201 : decode cX12_land 201 = .ok (.getfield 109, 3) := by decide +kernel
theorem dX12_land_204 : decode cX12_land 204 = .ok (.putfield 51, 3) := by decide +kernel
theorem dX12_land_207 : decode cX12_land 207 = .ok (.aload_n 0, 1) := by decide +kernel
theorem dX12_land_208 : decode cX12_land 208 = .ok (.invokevirtual 418, 3) := by decide +kernel
theorem dX12_land_211 : decode cX12_land 211 = .ok (.iload_n 1, 1) := by decide +kernel
theorem dX12_land_212 : decode cX12_land 212 = .ok (.ireturn, 1) := by decide +kernel
theorem dX12_fault_0 : decode cX12_fault 0 = .ok (.iload_n 1, 1) := by decide +kernel
theorem dX12_fault_1 : decode cX12_fault 1 = .ok (.ifCond .ne 10, 3) := by decide +kernel
theorem dX12_fault_4 : decode cX12_fault 4 = .ok (.aload_n 0, 1) := by decide +kernel
theorem dX12_fault_5 : decode cX12_fault 5 = .ok (.getfield 42, 3) := by decide +kernel
theorem dX12_fault_8 : decode cX12_fault 8 = .ok (.goto 16, 3) := by decide +kernel
theorem dX12_fault_11 : decode cX12_fault 11 = .ok (.iload_n 1, 1) := by decide +kernel
theorem dX12_fault_12 : decode cX12_fault 12 = .ok (.iconst 1, 1) := by decide +kernel
theorem dX12_fault_13 : decode cX12_fault 13 = .ok (.if_icmp .ne 10, 3) := by decide +kernel
theorem dX12_fault_16 : decode cX12_fault 16 = .ok (.aload_n 0, 1) := by decide +kernel
theorem dX12_fault_17 : decode cX12_fault 17 = .ok (.getfield 45, 3) := by decide +kernel
theorem dX12_fault_20 : decode cX12_fault 20 = .ok (.goto 4, 3) := by decide +kernel
theorem dX12_fault_23 : decode cX12_fault 23 = .ok (.iconst (-1), 1) := by decide +kernel
theorem dX12_fault_24 : decode cX12_fault 24 = .ok (.ireturn, 1) := by decide +kernel
theorem dX12_refuses_0 : decode cX12_refuses 0 = .ok (.aload_n 0, 1) := by decide +kernel
theorem dX12_refuses_1 : decode cX12_refuses 1 = .ok (.getfield 147, 3) := by decide +kernel
theorem dX12_refuses_4 : decode cX12_refuses 4 = .ok (.iload_n 1, 1) := by decide +kernel
theorem dX12_refuses_5 : decode cX12_refuses 5 = .ok (.dup2, 1) := by decide +kernel
theorem dX12_refuses_6 : decode cX12_refuses 6 = .ok (.iaload, 1) := by decide +kernel
theorem dX12_refuses_7 : decode cX12_refuses 7 = .ok (.iconst 1, 1) := by decide +kernel
theorem dX12_refuses_8 : decode cX12_refuses 8 = .ok (.iadd, 1) := by decide +kernel
theorem dX12_refuses_9 : decode cX12_refuses 9 = .ok (.iastore, 1) := by decide +kernel
theorem dX12_refuses_10 : decode cX12_refuses 10 = .ok (.iconst (-1), 1) := by decide +kernel
theorem dX12_refuses_11 : decode cX12_refuses 11 = .ok (.ireturn, 1) := by decide +kernel
theorem dX12_status_0 : decode cX12_status 0 = .ok (.iload_n 1, 1) := by decide +kernel
theorem dX12_status_1 : decode cX12_status 1 = .ok (.iconst 0, 1) := by decide +kernel
theorem dX12_status_2 : decode cX12_status 2 = .ok (.iconst 5, 1) := by decide +kernel
theorem dX12_status_3 : decode cX12_status 3 = .ok (.invokestatic 309, 3) := by decide +kernel
theorem dX12_status_6 : decode cX12_status 6 = .ok (.ifCond .eq 12, 3) := by decide +kernel
theorem dX12_status_9 : decode cX12_status 9 = .ok (.aload_n 0, 1) := by decide +kernel
theorem dX12_status_10 : decode cX12_status 10 = .ok (.getfield 147, 3) := by decide +kernel
theorem dX12_status_13 : decode cX12_status 13 = .ok (.iload_n 1, 1) := by decide +kernel
theorem dX12_status_14 : decode cX12_status 14 = .ok (.iaload, 1) := by decide +kernel
theorem dX12_status_15 : decode cX12_status 15 = .ok (.goto 4, 3) := by decide +kernel
theorem dX12_status_18 : decode cX12_status 18 = .ok (.iconst (-1), 1) := by decide +kernel
theorem dX12_status_19 : decode cX12_status 19 = .ok (.ireturn, 1) := by decide +kernel
theorem dX12_copies_0 : decode cX12_copies 0 = .ok (.aload_n 0, 1) := by decide +kernel
theorem dX12_copies_1 : decode cX12_copies 1 = .ok (.getfield 150, 3) := by decide +kernel
theorem dX12_copies_4 : decode cX12_copies 4 = .ok (.iload_n 1, 1) := by decide +kernel
theorem dX12_copies_5 : decode cX12_copies 5 = .ok (.aload_n 0, 1) := by decide +kernel
theorem dX12_copies_6 : decode cX12_copies 6 = .ok (.getfield 150, 3) := by decide +kernel
theorem dX12_copies_9 : decode cX12_copies 9 = .ok (.iload_n 2, 1) := by decide +kernel
theorem dX12_copies_10 : decode cX12_copies 10 = .ok (.iaload, 1) := by decide +kernel
theorem dX12_copies_11 : decode cX12_copies 11 = .ok (.iastore, 1) := by decide +kernel
theorem dX12_copies_12 : decode cX12_copies 12 = .ok (.aload_n 0, 1) := by decide +kernel
theorem dX12_copies_13 : decode cX12_copies 13 = .ok (.getfield 153, 3) := by decide +kernel
theorem dX12_copies_16 : decode cX12_copies 16 = .ok (.iload_n 1, 1) := by decide +kernel
theorem dX12_copies_17 : decode cX12_copies 17 = .ok (.aload_n 0, 1) := by decide +kernel
theorem dX12_copies_18 : decode cX12_copies 18 = .ok (.getfield 153, 3) := by decide +kernel
theorem dX12_copies_21 : decode cX12_copies 21 = .ok (.iload_n 2, 1) := by decide +kernel
theorem dX12_copies_22 : decode cX12_copies 22 = .ok (.iaload, 1) := by decide +kernel
theorem dX12_copies_23 : decode cX12_copies 23 = .ok (.iastore, 1) := by decide +kernel
theorem dX12_copies_24 : decode cX12_copies 24 = .ok (.iconst 0, 1) := by decide +kernel
theorem dX12_copies_25 : decode cX12_copies 25 = .ok (.istore_n 3, 1) := by decide +kernel
theorem dX12_copies_26 : decode cX12_copies 26 = .ok (.iload_n 3, 1) := by decide +kernel
theorem dX12_copies_27 : decode cX12_copies 27 = .ok (.bipush 6, 2) := by decide +kernel
theorem dX12_copies_29 : decode cX12_copies 29 = .ok (.if_icmp .ge 75, 3) := by decide +kernel
theorem dX12_copies_32 : decode cX12_copies 32 = .ok (.aload_n 0, 1) := by decide +kernel
theorem dX12_copies_33 : decode cX12_copies 33 = .ok (.getfield 156, 3) := by decide +kernel
theorem dX12_copies_36 : decode cX12_copies 36 = .ok (.bipush 6, 2) := by decide +kernel
theorem dX12_copies_38 : decode cX12_copies 38 = .ok (.iload_n 1, 1) := by decide +kernel
theorem dX12_copies_39 : decode cX12_copies 39 = .ok (.imul, 1) := by decide +kernel
theorem dX12_copies_40 : decode cX12_copies 40 = .ok (.iload_n 3, 1) := by decide +kernel
theorem dX12_copies_41 : decode cX12_copies 41 = .ok (.iadd, 1) := by decide +kernel
theorem dX12_copies_42 : decode cX12_copies 42 = .ok (.aload_n 0, 1) := by decide +kernel
theorem dX12_copies_43 : decode cX12_copies 43 = .ok (.getfield 156, 3) := by decide +kernel
theorem dX12_copies_46 : decode cX12_copies 46 = .ok (.bipush 6, 2) := by decide +kernel
theorem dX12_copies_48 : decode cX12_copies 48 = .ok (.iload_n 2, 1) := by decide +kernel
theorem dX12_copies_49 : decode cX12_copies 49 = .ok (.imul, 1) := by decide +kernel
theorem dX12_copies_50 : decode cX12_copies 50 = .ok (.iload_n 3, 1) := by decide +kernel
theorem dX12_copies_51 : decode cX12_copies 51 = .ok (.iadd, 1) := by decide +kernel
theorem dX12_copies_52 : decode cX12_copies 52 = .ok (.iaload, 1) := by decide +kernel
theorem dX12_copies_53 : decode cX12_copies 53 = .ok (.iastore, 1) := by decide +kernel
theorem dX12_copies_54 : decode cX12_copies 54 = .ok (.aload_n 0, 1) := by decide +kernel
theorem dX12_copies_55 : decode cX12_copies 55 = .ok (.getfield 159, 3) := by decide +kernel
theorem dX12_copies_58 : decode cX12_copies 58 = .ok (.bipush 6, 2) := by decide +kernel
theorem dX12_copies_60 : decode cX12_copies 60 = .ok (.iload_n 1, 1) := by decide +kernel
theorem dX12_copies_61 : decode cX12_copies 61 = .ok (.imul, 1) := by decide +kernel
theorem dX12_copies_62 : decode cX12_copies 62 = .ok (.iload_n 3, 1) := by decide +kernel
theorem dX12_copies_63 : decode cX12_copies 63 = .ok (.iadd, 1) := by decide +kernel
theorem dX12_copies_64 : decode cX12_copies 64 = .ok (.aload_n 0, 1) := by decide +kernel
theorem dX12_copies_65 : decode cX12_copies 65 = .ok (.getfield 159, 3) := by decide +kernel
theorem dX12_copies_68 : decode cX12_copies 68 = .ok (.bipush 6, 2) := by decide +kernel
theorem dX12_copies_70 : decode cX12_copies 70 = .ok (.iload_n 2, 1) := by decide +kernel
theorem dX12_copies_71 : decode cX12_copies 71 = .ok (.imul, 1) := by decide +kernel
theorem dX12_copies_72 : decode cX12_copies 72 = .ok (.iload_n 3, 1) := by decide +kernel
theorem dX12_copies_73 : decode cX12_copies 73 = .ok (.iadd, 1) := by decide +kernel
theorem dX12_copies_74 : decode cX12_copies 74 = .ok (.iaload, 1) := by decide +kernel
theorem dX12_copies_75 : decode cX12_copies 75 = .ok (.iastore, 1) := by decide +kernel
theorem dX12_copies_76 : decode cX12_copies 76 = .ok (.aload_n 0, 1) := by decide +kernel
theorem dX12_copies_77 : decode cX12_copies 77 = .ok (.getfield 162, 3) := by decide +kernel
theorem dX12_copies_80 : decode cX12_copies 80 = .ok (.bipush 6, 2) := by decide +kernel
theorem dX12_copies_82 : decode cX12_copies 82 = .ok (.iload_n 1, 1) := by decide +kernel
theorem dX12_copies_83 : decode cX12_copies 83 = .ok (.imul, 1) := by decide +kernel
theorem dX12_copies_84 : decode cX12_copies 84 = .ok (.iload_n 3, 1) := by decide +kernel
theorem dX12_copies_85 : decode cX12_copies 85 = .ok (.iadd, 1) := by decide +kernel
theorem dX12_copies_86 : decode cX12_copies 86 = .ok (.aload_n 0, 1) := by decide +kernel
theorem dX12_copies_87 : decode cX12_copies 87 = .ok (.getfield 162, 3) := by decide +kernel
theorem dX12_copies_90 : decode cX12_copies 90 = .ok (.bipush 6, 2) := by decide +kernel
theorem dX12_copies_92 : decode cX12_copies 92 = .ok (.iload_n 2, 1) := by decide +kernel
theorem dX12_copies_93 : decode cX12_copies 93 = .ok (.imul, 1) := by decide +kernel
theorem dX12_copies_94 : decode cX12_copies 94 = .ok (.iload_n 3, 1) := by decide +kernel
theorem dX12_copies_95 : decode cX12_copies 95 = .ok (.iadd, 1) := by decide +kernel
theorem dX12_copies_96 : decode cX12_copies 96 = .ok (.iaload, 1) := by decide +kernel
theorem dX12_copies_97 : decode cX12_copies 97 = .ok (.iastore, 1) := by decide +kernel
theorem dX12_copies_98 : decode cX12_copies 98 = .ok (.iinc 3 1, 3) := by decide +kernel
theorem dX12_copies_101 : decode cX12_copies 101 = .ok (.goto (-75), 3) := by decide +kernel
theorem dX12_copies_104 : decode cX12_copies 104 = .ok (.aload_n 0, 1) := by decide +kernel
theorem dX12_copies_105 : decode cX12_copies 105 = .ok (.getfield 165, 3) := by decide +kernel
theorem dX12_copies_108 : decode cX12_copies 108 = .ok (.iload_n 1, 1) := by decide +kernel
theorem dX12_copies_109 : decode cX12_copies 109 = .ok (.aload_n 0, 1) := by decide +kernel
theorem dX12_copies_110 : decode cX12_copies 110 = .ok (.getfield 165, 3) := by decide +kernel
theorem dX12_copies_113 : decode cX12_copies 113 = .ok (.iload_n 2, 1) := by decide +kernel
theorem dX12_copies_114 : decode cX12_copies 114 = .ok (.iaload, 1) := by decide +kernel
theorem dX12_copies_115 : decode cX12_copies 115 = .ok (.iastore, 1) := by decide +kernel
theorem dX12_copies_116 : decode cX12_copies 116 = .ok (.iconst 0, 1) := by decide +kernel
theorem dX12_copies_117 : decode cX12_copies 117 = .ok (.istore_n 3, 1) := by decide +kernel
theorem dX12_copies_118 : decode cX12_copies 118 = .ok (.iload_n 3, 1) := by decide +kernel
theorem dX12_copies_119 : decode cX12_copies 119 = .ok (.iconst 3, 1) := by decide +kernel
theorem dX12_copies_120 : decode cX12_copies 120 = .ok (.aload_n 0, 1) := by decide +kernel
theorem dX12_copies_121 : decode cX12_copies 121 = .ok (.getfield 165, 3) := by decide +kernel
theorem dX12_copies_124 : decode cX12_copies 124 = .ok (.iload_n 2, 1) := by decide +kernel
theorem dX12_copies_125 : decode cX12_copies 125 = .ok (.iaload, 1) := by decide +kernel
theorem dX12_copies_126 : decode cX12_copies 126 = .ok (.imul, 1) := by decide +kernel
theorem dX12_copies_127 : decode cX12_copies 127 = .ok (.if_icmp .ge 31, 3) := by decide +kernel
theorem dX12_copies_130 : decode cX12_copies 130 = .ok (.aload_n 0, 1) := by decide +kernel
theorem dX12_copies_131 : decode cX12_copies 131 = .ok (.getfield 168, 3) := by decide +kernel
theorem dX12_copies_134 : decode cX12_copies 134 = .ok (.bipush 120, 2) := by decide +kernel
theorem dX12_copies_136 : decode cX12_copies 136 = .ok (.iload_n 1, 1) := by decide +kernel
theorem dX12_copies_137 : decode cX12_copies 137 = .ok (.imul, 1) := by decide +kernel
theorem dX12_copies_138 : decode cX12_copies 138 = .ok (.iload_n 3, 1) := by decide +kernel
theorem dX12_copies_139 : decode cX12_copies 139 = .ok (.iadd, 1) := by decide +kernel
theorem dX12_copies_140 : decode cX12_copies 140 = .ok (.aload_n 0, 1) := by decide +kernel
theorem dX12_copies_141 : decode cX12_copies 141 = .ok (.getfield 168, 3) := by decide +kernel
theorem dX12_copies_144 : decode cX12_copies 144 = .ok (.bipush 120, 2) := by decide +kernel
theorem dX12_copies_146 : decode cX12_copies 146 = .ok (.iload_n 2, 1) := by decide +kernel
theorem dX12_copies_147 : decode cX12_copies 147 = .ok (.imul, 1) := by decide +kernel
theorem dX12_copies_148 : decode cX12_copies 148 = .ok (.iload_n 3, 1) := by decide +kernel
theorem dX12_copies_149 : decode cX12_copies 149 = .ok (.iadd, 1) := by decide +kernel
theorem dX12_copies_150 : decode cX12_copies 150 = .ok (.iaload, 1) := by decide +kernel
theorem dX12_copies_151 : decode cX12_copies 151 = .ok (.iastore, 1) := by decide +kernel
theorem dX12_copies_152 : decode cX12_copies 152 = .ok (.iinc 3 1, 3) := by decide +kernel
theorem dX12_copies_155 : decode cX12_copies 155 = .ok (.goto (-37), 3) := by decide +kernel
theorem dX12_copies_158 : decode cX12_copies 158 = .ok (.return_, 1) := by decide +kernel
theorem dX12_begin_0 : decode cX12_begin 0 = .ok (.aload_n 0, 1) := by decide +kernel
theorem dX12_begin_1 : decode cX12_begin 1 = .ok (.getfield 150, 3) := by decide +kernel
theorem dX12_begin_4 : decode cX12_begin 4 = .ok (.iconst 0, 1) := by decide +kernel
theorem dX12_begin_5 : decode cX12_begin 5 = .ok (.iconst 0, 1) := by decide +kernel
theorem dX12_begin_6 : decode cX12_begin 6 = .ok (.iastore, 1) := by decide +kernel
theorem dX12_begin_7 : decode cX12_begin 7 = .ok (.aload_n 0, 1) := by decide +kernel
theorem dX12_begin_8 : decode cX12_begin 8 = .ok (.getfield 153, 3) := by decide +kernel
theorem dX12_begin_11 : decode cX12_begin 11 = .ok (.iconst 0, 1) := by decide +kernel
theorem dX12_begin_12 : decode cX12_begin 12 = .ok (.aload_n 0, 1) := by decide +kernel
theorem dX12_begin_13 : decode cX12_begin 13 = .ok (.getfield 84, 3) := by decide +kernel
theorem dX12_begin_16 : decode cX12_begin 16 = .ok (.aload_n 0, 1) := by decide +kernel
theorem dX12_begin_17 : decode cX12_begin 17 = .ok (.getfield 51, 3) := by decide +kernel
theorem dX12_begin_20 : decode cX12_begin 20 = .ok (.iaload, 1) := by decide +kernel
theorem dX12_begin_21 : decode cX12_begin 21 = .ok (.iastore, 1) := by decide +kernel
theorem dX12_begin_22 : decode cX12_begin 22 = .ok (.iconst 0, 1) := by decide +kernel
theorem dX12_begin_23 : decode cX12_begin 23 = .ok (.istore_n 1, 1) := by decide +kernel
theorem dX12_begin_24 : decode cX12_begin 24 = .ok (.iload_n 1, 1) := by decide +kernel
theorem dX12_begin_25 : decode cX12_begin 25 = .ok (.bipush 6, 2) := by decide +kernel
theorem dX12_begin_27 : decode cX12_begin 27 = .ok (.if_icmp .ge 60, 3) := by decide +kernel
theorem dX12_begin_30 : decode cX12_begin 30 = .ok (.aload_n 0, 1) := by decide +kernel
theorem dX12_begin_31 : decode cX12_begin 31 = .ok (.getfield 156, 3) := by decide +kernel
theorem dX12_begin_34 : decode cX12_begin 34 = .ok (.iload_n 1, 1) := by decide +kernel
theorem dX12_begin_35 : decode cX12_begin 35 = .ok (.iload_n 1, 1) := by decide +kernel
theorem dX12_begin_36 : decode cX12_begin 36 = .ok (.iastore, 1) := by decide +kernel
theorem dX12_begin_37 : decode cX12_begin 37 = .ok (.aload_n 0, 1) := by decide +kernel
theorem dX12_begin_38 : decode cX12_begin 38 = .ok (.getfield 159, 3) := by decide +kernel
theorem dX12_begin_41 : decode cX12_begin 41 = .ok (.iload_n 1, 1) := by decide +kernel
theorem dX12_begin_42 : decode cX12_begin 42 = .ok (.iconst 5, 1) := by decide +kernel
theorem dX12_begin_43 : decode cX12_begin 43 = .ok (.iastore, 1) := by decide +kernel
theorem dX12_begin_44 : decode cX12_begin 44 = .ok (.aload_n 0, 1) := by decide +kernel
theorem dX12_begin_45 : decode cX12_begin 45 = .ok (.getfield 162, 3) := by decide +kernel
theorem dX12_begin_48 : decode cX12_begin 48 = .ok (.iload_n 1, 1) := by decide +kernel
theorem dX12_begin_49 : decode cX12_begin 49 = .ok (.iload_n 1, 1) := by decide +kernel
theorem dX12_begin_50 : decode cX12_begin 50 = .ok (.aload_n 0, 1) := by decide +kernel
theorem dX12_begin_51 : decode cX12_begin 51 = .ok (.getfield 72, 3) := by decide +kernel
theorem dX12_begin_54 : decode cX12_begin 54 = .ok (.aload_n 0, 1) := by decide +kernel
theorem dX12_begin_55 : decode cX12_begin 55 = .ok (.getfield 51, 3) := by decide +kernel
theorem dX12_begin_58 : decode cX12_begin 58 = .ok (.iaload, 1) := by decide +kernel
theorem dX12_begin_59 : decode cX12_begin 59 = .ok (.if_icmp .ge 20, 3) := by decide +kernel
theorem dX12_begin_62 : decode cX12_begin 62 = .ok (.aload_n 0, 1) := by decide +kernel
theorem dX12_begin_63 : decode cX12_begin 63 = .ok (.getfield 81, 3) := by decide +kernel
theorem dX12_begin_66 : decode cX12_begin 66 = .ok (.bipush 6, 2) := by decide +kernel
theorem dX12_begin_68 : decode cX12_begin 68 = .ok (.aload_n 0, 1) := by decide +kernel
theorem dX12_begin_69 : decode cX12_begin 69 = .ok (.getfield 51, 3) := by decide +kernel
theorem dX12_begin_72 : decode cX12_begin 72 = .ok (.imul, 1) := by decide +kernel
theorem dX12_begin_73 : decode cX12_begin 73 = .ok (.iload_n 1, 1) := by decide +kernel
theorem dX12_begin_74 : decode cX12_begin 74 = .ok (.iadd, 1) := by decide +kernel
theorem dX12_begin_75 : decode cX12_begin 75 = .ok (.iaload, 1) := by decide +kernel
theorem dX12_begin_76 : decode cX12_begin 76 = .ok (.goto 4, 3) := by decide +kernel
theorem dX12_begin_79 : decode cX12_begin 79 = .ok (.iconst (-1), 1) := by decide +kernel
theorem dX12_begin_80 : decode cX12_begin 80 = .ok (.iastore, 1) := by decide +kernel
theorem dX12_begin_81 : decode cX12_begin 81 = .ok (.iinc 1 1, 3) := by decide +kernel
theorem dX12_begin_84 : decode cX12_begin 84 = .ok (.goto (-60), 3) := by decide +kernel
theorem dX12_begin_87 : decode cX12_begin 87 = .ok (.iconst 0, 1) := by decide +kernel
theorem dX12_begin_88 : decode cX12_begin 88 = .ok (.istore_n 1, 1) := by decide +kernel
theorem dX12_begin_89 : decode cX12_begin 89 = .ok (.iload_n 1, 1) := by decide +kernel
theorem dX12_begin_90 : decode cX12_begin 90 = .ok (.bipush 18, 2) := by decide +kernel
theorem dX12_begin_92 : decode cX12_begin 92 = .ok (.if_icmp .ge 29, 3) := by decide +kernel
theorem dX12_begin_95 : decode cX12_begin 95 = .ok (.aload_n 0, 1) := by decide +kernel
theorem dX12_begin_96 : decode cX12_begin 96 = .ok (.getfield 180, 3) := by decide +kernel
theorem dX12_begin_99 : decode cX12_begin 99 = .ok (.iload_n 1, 1) := by decide +kernel
theorem dX12_begin_100 : decode cX12_begin 100 = .ok (.aload_n 0, 1) := by decide +kernel
theorem dX12_begin_101 : decode cX12_begin 101 = .ok (.getfield 57, 3) := by decide +kernel
theorem dX12_begin_104 : decode cX12_begin 104 = .ok (.bipush 18, 2) := by decide +kernel
theorem dX12_begin_106 : decode cX12_begin 106 = .ok (.aload_n 0, 1) := by decide +kernel
theorem dX12_begin_107 : decode cX12_begin 107 = .ok (.getfield 51, 3) := by decide +kernel
theorem dX12_begin_110 : decode cX12_begin 110 = .ok (.imul, 1) := by decide +kernel
theorem dX12_begin_111 : decode cX12_begin 111 = .ok (.iload_n 1, 1) := by decide +kernel
theorem dX12_begin_112 : decode cX12_begin 112 = .ok (.iadd, 1) := by decide +kernel
theorem dX12_begin_113 : decode cX12_begin 113 = .ok (.iaload, 1) := by decide +kernel
theorem dX12_begin_114 : decode cX12_begin 114 = .ok (.iastore, 1) := by decide +kernel
theorem dX12_begin_115 : decode cX12_begin 115 = .ok (.iinc 1 1, 3) := by decide +kernel
theorem dX12_begin_118 : decode cX12_begin 118 = .ok (.goto (-29), 3) := by decide +kernel
theorem dX12_begin_121 : decode cX12_begin 121 = .ok (.aload_n 0, 1) := by decide +kernel
theorem dX12_begin_122 : decode cX12_begin 122 = .ok (.getfield 165, 3) := by decide +kernel
theorem dX12_begin_125 : decode cX12_begin 125 = .ok (.iconst 0, 1) := by decide +kernel
theorem dX12_begin_126 : decode cX12_begin 126 = .ok (.iconst 0, 1) := by decide +kernel
theorem dX12_begin_127 : decode cX12_begin 127 = .ok (.iastore, 1) := by decide +kernel
theorem dX12_begin_128 : decode cX12_begin 128 = .ok (.aload_n 0, 1) := by decide +kernel
theorem dX12_begin_129 : decode cX12_begin 129 = .ok (.iconst 0, 1) := by decide +kernel
theorem dX12_begin_130 : decode cX12_begin 130 = .ok (.putfield 174, 3) := by decide +kernel
theorem dX12_begin_133 : decode cX12_begin 133 = .ok (.aload_n 0, 1) := by decide +kernel
theorem dX12_begin_134 : decode cX12_begin 134 = .ok (.iconst 0, 1) := by decide +kernel
theorem dX12_begin_135 : decode cX12_begin 135 = .ok (.putfield 201, 3) := by decide +kernel
theorem dX12_begin_138 : decode cX12_begin 138 = .ok (.return_, 1) := by decide +kernel
theorem dX12_slot_0 : decode cX12_slot 0 = .ok (.iconst 2, 1) := by decide +kernel
theorem dX12_slot_1 : decode cX12_slot 1 = .ok (.aload_n 0, 1) := by decide +kernel
theorem dX12_slot_2 : decode cX12_slot 2 = .ok (.getfield 171, 3) := by decide +kernel
theorem dX12_slot_5 : decode cX12_slot 5 = .ok (.iload_n 1, 1) := by decide +kernel
theorem dX12_slot_6 : decode cX12_slot 6 = .ok (.iadd, 1) := by decide +kernel
theorem dX12_slot_7 : decode cX12_slot 7 = .ok (.bipush 20, 2) := by decide +kernel
theorem dX12_slot_9 : decode cX12_slot 9 = .ok (.irem, 1) := by decide +kernel
theorem dX12_slot_10 : decode cX12_slot 10 = .ok (.iadd, 1) := by decide +kernel
theorem dX12_slot_11 : decode cX12_slot 11 = .ok (.ireturn, 1) := by decide +kernel
theorem dX12_keeps_0 : decode cX12_keeps 0 = .ok (.aload_n 0, 1) := by decide +kernel
theorem dX12_keeps_1 : decode cX12_keeps 1 = .ok (.getfield 174, 3) := by decide +kernel
theorem dX12_keeps_4 : decode cX12_keeps 4 = .ok (.bipush 20, 2) := by decide +kernel
theorem dX12_keeps_6 : decode cX12_keeps 6 = .ok (.if_icmp .ne 26, 3) := by decide +kernel
theorem dX12_keeps_9 : decode cX12_keeps 9 = .ok (.aload_n 0, 1) := by decide +kernel
theorem dX12_keeps_10 : decode cX12_keeps 10 = .ok (.aload_n 0, 1) := by decide +kernel
theorem dX12_keeps_11 : decode cX12_keeps 11 = .ok (.getfield 171, 3) := by decide +kernel
theorem dX12_keeps_14 : decode cX12_keeps 14 = .ok (.iconst 1, 1) := by decide +kernel
theorem dX12_keeps_15 : decode cX12_keeps 15 = .ok (.iadd, 1) := by decide +kernel
theorem dX12_keeps_16 : decode cX12_keeps 16 = .ok (.bipush 20, 2) := by decide +kernel
theorem dX12_keeps_18 : decode cX12_keeps 18 = .ok (.irem, 1) := by decide +kernel
theorem dX12_keeps_19 : decode cX12_keeps 19 = .ok (.putfield 171, 3) := by decide +kernel
theorem dX12_keeps_22 : decode cX12_keeps 22 = .ok (.aload_n 0, 1) := by decide +kernel
theorem dX12_keeps_23 : decode cX12_keeps 23 = .ok (.dup, 1) := by decide +kernel
theorem dX12_keeps_24 : decode cX12_keeps 24 = .ok (.getfield 174, 3) := by decide +kernel
theorem dX12_keeps_27 : decode cX12_keeps 27 = .ok (.iconst 1, 1) := by decide +kernel
theorem dX12_keeps_28 : decode cX12_keeps 28 = .ok (.isub, 1) := by decide +kernel
theorem dX12_keeps_29 : decode cX12_keeps 29 = .ok (.putfield 174, 3) := by decide +kernel
theorem dX12_keeps_32 : decode cX12_keeps 32 = .ok (.aload_n 0, 1) := by decide +kernel
theorem dX12_keeps_33 : decode cX12_keeps 33 = .ok (.aload_n 0, 1) := by decide +kernel
theorem dX12_keeps_34 : decode cX12_keeps 34 = .ok (.aload_n 0, 1) := by decide +kernel
theorem dX12_keeps_35 : decode cX12_keeps 35 = .ok (.getfield 174, 3) := by decide +kernel
theorem dX12_keeps_38 : decode cX12_keeps 38 = .ok (.invokevirtual 421, 3) := by decide +kernel
theorem dX12_keeps_41 : decode cX12_keeps 41 = .ok (.iconst 0, 1) := by decide +kernel
theorem dX12_keeps_42 : decode cX12_keeps 42 = .ok (.invokevirtual 424, 3) := by decide +kernel
theorem dX12_keeps_45 : decode cX12_keeps 45 = .ok (.aload_n 0, 1) := by decide +kernel
theorem dX12_keeps_46 : decode cX12_keeps 46 = .ok (.dup, 1) := by decide +kernel
theorem dX12_keeps_47 : decode cX12_keeps 47 = .ok (.getfield 174, 3) := by decide +kernel
theorem dX12_keeps_50 : decode cX12_keeps 50 = .ok (.iconst 1, 1) := by decide +kernel
theorem dX12_keeps_51 : decode cX12_keeps 51 = .ok (.iadd, 1) := by decide +kernel
theorem dX12_keeps_52 : decode cX12_keeps 52 = .ok (.putfield 174, 3) := by decide +kernel
theorem dX12_keeps_55 : decode cX12_keeps 55 = .ok (.return_, 1) := by decide +kernel
theorem dX12_undo_0 : decode cX12_undo 0 = .ok (.aload_n 0, 1) := by decide +kernel
theorem dX12_undo_1 : decode cX12_undo 1 = .ok (.getfield 174, 3) := by decide +kernel
theorem dX12_undo_4 : decode cX12_undo 4 = .ok (.ifCond .ne 17, 3) := by decide +kernel
theorem dX12_undo_7 : decode cX12_undo 7 = .ok (.aload_n 0, 1) := by decide +kernel
theorem dX12_undo_8 : decode cX12_undo 8 = .ok (.iconst 4, 1) := by decide +kernel
theorem dX12_undo_9 : decode cX12_undo 9 = .ok (.invokevirtual 222, 3) := by decide +kernel
theorem dX12_undo_12 : decode cX12_undo 12 = .ok (.ifCond .lt 7, 3) := by decide +kernel
theorem dX12_undo_15 : decode cX12_undo 15 = .ok (.iconst 1, 1) := by decide +kernel
theorem dX12_undo_16 : decode cX12_undo 16 = .ok (.goto 4, 3) := by decide +kernel
theorem dX12_undo_19 : decode cX12_undo 19 = .ok (.iconst 0, 1) := by decide +kernel
theorem dX12_undo_20 : decode cX12_undo 20 = .ok (.ireturn, 1) := by decide +kernel
theorem dX12_undo_21 : decode cX12_undo 21 = .ok (.aload_n 0, 1) := by decide +kernel
theorem dX12_undo_22 : decode cX12_undo 22 = .ok (.dup, 1) := by decide +kernel
theorem dX12_undo_23 : decode cX12_undo 23 = .ok (.getfield 174, 3) := by decide +kernel
theorem dX12_undo_26 : decode cX12_undo 26 = .ok (.iconst 1, 1) := by decide +kernel
theorem dX12_undo_27 : decode cX12_undo 27 = .ok (.isub, 1) := by decide +kernel
theorem dX12_undo_28 : decode cX12_undo 28 = .ok (.putfield 174, 3) := by decide +kernel
theorem dX12_undo_31 : decode cX12_undo 31 = .ok (.aload_n 0, 1) := by decide +kernel
theorem dX12_undo_32 : decode cX12_undo 32 = .ok (.iconst 0, 1) := by decide +kernel
theorem dX12_undo_33 : decode cX12_undo 33 = .ok (.aload_n 0, 1) := by decide +kernel
theorem dX12_undo_34 : decode cX12_undo 34 = .ok (.aload_n 0, 1) := by decide +kernel
theorem dX12_undo_35 : decode cX12_undo 35 = .ok (.getfield 174, 3) := by decide +kernel
theorem dX12_undo_38 : decode cX12_undo 38 = .ok (.invokevirtual 421, 3) := by decide +kernel
theorem dX12_undo_41 : decode cX12_undo 41 = .ok (.invokevirtual 424, 3) := by decide +kernel
theorem dX12_undo_44 : decode cX12_undo 44 = .ok (.iconst 1, 1) := by decide +kernel
theorem dX12_undo_45 : decode cX12_undo 45 = .ok (.ireturn, 1) := by decide +kernel
theorem dX12_within_0 : decode cX12_within 0 = .ok (.lload_n 0, 1) := by decide +kernel
theorem dX12_within_1 : decode cX12_within 1 = .ok (.ldc2_w 427, 3) := by decide +kernel
theorem dX12_within_4 : decode cX12_within 4 = .ok (.lcmp, 1) := by decide +kernel
theorem dX12_within_5 : decode cX12_within 5 = .ok (.ifCond .le 9, 3) := by decide +kernel
theorem dX12_within_8 : decode cX12_within 8 = .ok (.ldc2_w 427, 3) := by decide +kernel
theorem dX12_within_11 : decode cX12_within 11 = .ok (.goto 18, 3) := by decide +kernel
theorem dX12_within_14 : decode cX12_within 14 = .ok (.lload_n 0, 1) := by decide +kernel
theorem dX12_within_15 : decode cX12_within 15 = .ok (.ldc2_w 429, 3) := by decide +kernel
theorem dX12_within_18 : decode cX12_within 18 = .ok (.lcmp, 1) := by decide +kernel
theorem dX12_within_19 : decode cX12_within 19 = .ok (.ifCond .ge 9, 3) := by decide +kernel
theorem dX12_within_22 : decode cX12_within 22 = .ok (.ldc2_w 429, 3) := by decide +kernel
theorem dX12_within_25 : decode cX12_within 25 = .ok (.goto 4, 3) := by decide +kernel
theorem dX12_within_28 : decode cX12_within 28 = .ok (.lload_n 0, 1) := by decide +kernel
theorem dX12_within_29 : decode cX12_within 29 = .ok (.lreturn, 1) := by decide +kernel
theorem dX12_floor_0 : decode cX12_floor 0 = .ok (.lload_n 2, 1) := by decide +kernel
theorem dX12_floor_1 : decode cX12_floor 1 = .ok (.lconst 0, 1) := by decide +kernel
theorem dX12_floor_2 : decode cX12_floor 2 = .ok (.lcmp, 1) := by decide +kernel
theorem dX12_floor_3 : decode cX12_floor 3 = .ok (.ifCond .ne 5, 3) := by decide +kernel
theorem dX12_floor_6 : decode cX12_floor 6 = .ok (.lconst 0, 1) := by decide +kernel
theorem dX12_floor_7 : decode cX12_floor 7 = .ok (.lreturn, 1) := by decide +kernel
theorem dX12_floor_8 : decode cX12_floor 8 = .ok (.lload_n 0, 1) := by decide +kernel
theorem dX12_floor_9 : decode cX12_floor 9 = .ok (.lload_n 2, 1) := by decide +kernel
theorem dX12_floor_10 : decode cX12_floor 10 = .ok (.ldiv, 1) := by decide +kernel
theorem dX12_floor_11 : decode cX12_floor 11 = .ok (.lstore 4, 2) := by decide +kernel
theorem dX12_floor_13 : decode cX12_floor 13 = .ok (.lload_n 0, 1) := by decide +kernel
theorem dX12_floor_14 : decode cX12_floor 14 = .ok (.lload_n 2, 1) := by decide +kernel
theorem dX12_floor_15 : decode cX12_floor 15 = .ok (.lrem, 1) := by decide +kernel
theorem dX12_floor_16 : decode cX12_floor 16 = .ok (.lconst 0, 1) := by decide +kernel
theorem dX12_floor_17 : decode cX12_floor 17 = .ok (.lcmp, 1) := by decide +kernel
theorem dX12_floor_18 : decode cX12_floor 18 = .ok (.ifCond .eq 35, 3) := by decide +kernel
theorem dX12_floor_21 : decode cX12_floor 21 = .ok (.lload_n 0, 1) := by decide +kernel
theorem dX12_floor_22 : decode cX12_floor 22 = .ok (.lconst 0, 1) := by decide +kernel
theorem dX12_floor_23 : decode cX12_floor 23 = .ok (.lcmp, 1) := by decide +kernel
theorem dX12_floor_24 : decode cX12_floor 24 = .ok (.ifCond .ge 7, 3) := by decide +kernel
theorem dX12_floor_27 : decode cX12_floor 27 = .ok (.iconst 1, 1) := by decide +kernel
theorem dX12_floor_28 : decode cX12_floor 28 = .ok (.goto 4, 3) := by decide +kernel
theorem dX12_floor_31 : decode cX12_floor 31 = .ok (.iconst 0, 1) := by decide +kernel
theorem dX12_floor_32 : decode cX12_floor 32 = .ok (.lload_n 2, 1) := by decide +kernel
theorem dX12_floor_33 : decode cX12_floor 33 = .ok (.lconst 0, 1) := by decide +kernel
theorem dX12_floor_34 : decode cX12_floor 34 = .ok (.lcmp, 1) := by decide +kernel
theorem dX12_floor_35 : decode cX12_floor 35 = .ok (.ifCond .ge 7, 3) := by decide +kernel
theorem dX12_floor_38 : decode cX12_floor 38 = .ok (.iconst 1, 1) := by decide +kernel
theorem dX12_floor_39 : decode cX12_floor 39 = .ok (.goto 4, 3) := by decide +kernel
theorem dX12_floor_42 : decode cX12_floor 42 = .ok (.iconst 0, 1) := by decide +kernel
theorem dX12_floor_43 : decode cX12_floor 43 = .ok (.if_icmp .eq 10, 3) := by decide +kernel
theorem dX12_floor_46 : decode cX12_floor 46 = .ok (.lload 4, 2) := by decide +kernel
theorem dX12_floor_48 : decode cX12_floor 48 = .ok (.lconst 1, 1) := by decide +kernel
theorem dX12_floor_49 : decode cX12_floor 49 = .ok (.lsub, 1) := by decide +kernel
theorem dX12_floor_50 : decode cX12_floor 50 = .ok (.goto 5, 3) := by decide +kernel
theorem dX12_floor_53 : decode cX12_floor 53 = .ok (.lload 4, 2) := by decide +kernel
theorem dX12_floor_55 : decode cX12_floor 55 = .ok (.lreturn, 1) := by decide +kernel
theorem dX12_two_0 : decode cX12_two 0 = .ok (.iload_n 0, 1) := by decide +kernel
theorem dX12_two_1 : decode cX12_two 1 = .ok (.tableswitch 176 31 41 #[59, 66, 73, 80, 89, 112, 124, 136, 148, 160, 172], 59) := by decide +kernel
theorem dX12_two_60 : decode cX12_two 60 = .ok (.lload_n 1, 1) := by decide +kernel
theorem dX12_two_61 : decode cX12_two 61 = .ok (.lload_n 3, 1) := by decide +kernel
theorem dX12_two_62 : decode cX12_two 62 = .ok (.ladd, 1) := by decide +kernel
theorem dX12_two_63 : decode cX12_two 63 = .ok (.invokestatic 431, 3) := by decide +kernel
theorem dX12_two_66 : decode cX12_two 66 = .ok (.lreturn, 1) := by decide +kernel
theorem dX12_two_67 : decode cX12_two 67 = .ok (.lload_n 1, 1) := by decide +kernel
theorem dX12_two_68 : decode cX12_two 68 = .ok (.lload_n 3, 1) := by decide +kernel
theorem dX12_two_69 : decode cX12_two 69 = .ok (.lsub, 1) := by decide +kernel
theorem dX12_two_70 : decode cX12_two 70 = .ok (.invokestatic 431, 3) := by decide +kernel
theorem dX12_two_73 : decode cX12_two 73 = .ok (.lreturn, 1) := by decide +kernel
theorem dX12_two_74 : decode cX12_two 74 = .ok (.lload_n 1, 1) := by decide +kernel
theorem dX12_two_75 : decode cX12_two 75 = .ok (.lload_n 3, 1) := by decide +kernel
theorem dX12_two_76 : decode cX12_two 76 = .ok (.lmul, 1) := by decide +kernel
theorem dX12_two_77 : decode cX12_two 77 = .ok (.invokestatic 431, 3) := by decide +kernel
theorem dX12_two_80 : decode cX12_two 80 = .ok (.lreturn, 1) := by decide +kernel
theorem dX12_two_81 : decode cX12_two 81 = .ok (.lload_n 1, 1) := by decide +kernel
theorem dX12_two_82 : decode cX12_two 82 = .ok (.lload_n 3, 1) := by decide +kernel
theorem dX12_two_83 : decode cX12_two 83 = .ok (.invokestatic 435, 3) := by decide +kernel
theorem dX12_two_86 : decode cX12_two 86 = .ok (.invokestatic 431, 3) := by decide +kernel
theorem dX12_two_89 : decode cX12_two 89 = .ok (.lreturn, 1) := by decide +kernel
theorem dX12_two_90 : decode cX12_two 90 = .ok (.lload_n 3, 1) := by decide +kernel
theorem dX12_two_91 : decode cX12_two 91 = .ok (.lconst 0, 1) := by decide +kernel
theorem dX12_two_92 : decode cX12_two 92 = .ok (.lcmp, 1) := by decide +kernel
theorem dX12_two_93 : decode cX12_two 93 = .ok (.ifCond .ne 7, 3) := by decide +kernel
theorem dX12_two_96 : decode cX12_two 96 = .ok (.lconst 0, 1) := by decide +kernel
theorem dX12_two_97 : decode cX12_two 97 = .ok (.goto 15, 3) := by decide +kernel
theorem dX12_two_100 : decode cX12_two 100 = .ok (.lload_n 1, 1) := by decide +kernel
theorem dX12_two_101 : decode cX12_two 101 = .ok (.lload_n 3, 1) := by decide +kernel
theorem dX12_two_102 : decode cX12_two 102 = .ok (.lload_n 1, 1) := by decide +kernel
theorem dX12_two_103 : decode cX12_two 103 = .ok (.lload_n 3, 1) := by decide +kernel
theorem dX12_two_104 : decode cX12_two 104 = .ok (.invokestatic 435, 3) := by decide +kernel
theorem dX12_two_107 : decode cX12_two 107 = .ok (.lmul, 1) := by decide +kernel
theorem dX12_two_108 : decode cX12_two 108 = .ok (.lsub, 1) := by decide +kernel
theorem dX12_two_109 : decode cX12_two 109 = .ok (.invokestatic 431, 3) := by decide +kernel
theorem dX12_two_112 : decode cX12_two 112 = .ok (.lreturn, 1) := by decide +kernel
theorem dX12_two_113 : decode cX12_two 113 = .ok (.lload_n 1, 1) := by decide +kernel
theorem dX12_two_114 : decode cX12_two 114 = .ok (.lload_n 3, 1) := by decide +kernel
theorem dX12_two_115 : decode cX12_two 115 = .ok (.lcmp, 1) := by decide +kernel
theorem dX12_two_116 : decode cX12_two 116 = .ok (.ifCond .ge 7, 3) := by decide +kernel
theorem dX12_two_119 : decode cX12_two 119 = .ok (.lload_n 1, 1) := by decide +kernel
theorem dX12_two_120 : decode cX12_two 120 = .ok (.goto 4, 3) := by decide +kernel
theorem dX12_two_123 : decode cX12_two 123 = .ok (.lload_n 3, 1) := by decide +kernel
theorem dX12_two_124 : decode cX12_two 124 = .ok (.lreturn, 1) := by decide +kernel
theorem dX12_two_125 : decode cX12_two 125 = .ok (.lload_n 1, 1) := by decide +kernel
theorem dX12_two_126 : decode cX12_two 126 = .ok (.lload_n 3, 1) := by decide +kernel
theorem dX12_two_127 : decode cX12_two 127 = .ok (.lcmp, 1) := by decide +kernel
theorem dX12_two_128 : decode cX12_two 128 = .ok (.ifCond .le 7, 3) := by decide +kernel
theorem dX12_two_131 : decode cX12_two 131 = .ok (.lload_n 1, 1) := by decide +kernel
theorem dX12_two_132 : decode cX12_two 132 = .ok (.goto 4, 3) := by decide +kernel
theorem dX12_two_135 : decode cX12_two 135 = .ok (.lload_n 3, 1) := by decide +kernel
theorem dX12_two_136 : decode cX12_two 136 = .ok (.lreturn, 1) := by decide +kernel
theorem dX12_two_137 : decode cX12_two 137 = .ok (.lload_n 1, 1) := by decide +kernel
theorem dX12_two_138 : decode cX12_two 138 = .ok (.lload_n 3, 1) := by decide +kernel
theorem dX12_two_139 : decode cX12_two 139 = .ok (.lcmp, 1) := by decide +kernel
theorem dX12_two_140 : decode cX12_two 140 = .ok (.ifCond .ge 7, 3) := by decide +kernel
theorem dX12_two_143 : decode cX12_two 143 = .ok (.lconst 1, 1) := by decide +kernel
theorem dX12_two_144 : decode cX12_two 144 = .ok (.goto 4, 3) := by decide +kernel
theorem dX12_two_147 : decode cX12_two 147 = .ok (.lconst 0, 1) := by decide +kernel
theorem dX12_two_148 : decode cX12_two 148 = .ok (.lreturn, 1) := by decide +kernel
theorem dX12_two_149 : decode cX12_two 149 = .ok (.lload_n 1, 1) := by decide +kernel
theorem dX12_two_150 : decode cX12_two 150 = .ok (.lload_n 3, 1) := by decide +kernel
theorem dX12_two_151 : decode cX12_two 151 = .ok (.lcmp, 1) := by decide +kernel
theorem dX12_two_152 : decode cX12_two 152 = .ok (.ifCond .le 7, 3) := by decide +kernel
theorem dX12_two_155 : decode cX12_two 155 = .ok (.lconst 1, 1) := by decide +kernel
theorem dX12_two_156 : decode cX12_two 156 = .ok (.goto 4, 3) := by decide +kernel
theorem dX12_two_159 : decode cX12_two 159 = .ok (.lconst 0, 1) := by decide +kernel
theorem dX12_two_160 : decode cX12_two 160 = .ok (.lreturn, 1) := by decide +kernel
theorem dX12_two_161 : decode cX12_two 161 = .ok (.lload_n 1, 1) := by decide +kernel
theorem dX12_two_162 : decode cX12_two 162 = .ok (.lload_n 3, 1) := by decide +kernel
theorem dX12_two_163 : decode cX12_two 163 = .ok (.lcmp, 1) := by decide +kernel
theorem dX12_two_164 : decode cX12_two 164 = .ok (.ifCond .ne 7, 3) := by decide +kernel
theorem dX12_two_167 : decode cX12_two 167 = .ok (.lconst 1, 1) := by decide +kernel
theorem dX12_two_168 : decode cX12_two 168 = .ok (.goto 4, 3) := by decide +kernel
theorem dX12_two_171 : decode cX12_two 171 = .ok (.lconst 0, 1) := by decide +kernel
theorem dX12_two_172 : decode cX12_two 172 = .ok (.lreturn, 1) := by decide +kernel
theorem dX12_two_173 : decode cX12_two 173 = .ok (.lload_n 1, 1) := by decide +kernel
theorem dX12_two_174 : decode cX12_two 174 = .ok (.lload_n 3, 1) := by decide +kernel
theorem dX12_two_175 : decode cX12_two 175 = .ok (.land, 1) := by decide +kernel
theorem dX12_two_176 : decode cX12_two 176 = .ok (.lreturn, 1) := by decide +kernel
theorem dX12_two_177 : decode cX12_two 177 = .ok (.lload_n 1, 1) := by decide +kernel
theorem dX12_two_178 : decode cX12_two 178 = .ok (.lload_n 3, 1) := by decide +kernel
theorem dX12_two_179 : decode cX12_two 179 = .ok (.lor, 1) := by decide +kernel
theorem dX12_two_180 : decode cX12_two 180 = .ok (.lreturn, 1) := by decide +kernel
theorem dX12_reckons_0 : decode cX12_reckons 0 = .ok (.iconst 0, 1) := by decide +kernel
theorem dX12_reckons_1 : decode cX12_reckons 1 = .ok (.istore_n 2, 1) := by decide +kernel
theorem dX12_reckons_2 : decode cX12_reckons 2 = .ok (.sipush 1600, 3) := by decide +kernel
theorem dX12_reckons_5 : decode cX12_reckons 5 = .ok (.aload_n 0, 1) := by decide +kernel
theorem dX12_reckons_6 : decode cX12_reckons 6 = .ok (.getfield 51, 3) := by decide +kernel
theorem dX12_reckons_9 : decode cX12_reckons 9 = .ok (.imul, 1) := by decide +kernel
theorem dX12_reckons_10 : decode cX12_reckons 10 = .ok (.aload_n 0, 1) := by decide +kernel
theorem dX12_reckons_11 : decode cX12_reckons 11 = .ok (.getfield 90, 3) := by decide +kernel
theorem dX12_reckons_14 : decode cX12_reckons 14 = .ok (.iconst 3, 1) := by decide +kernel
theorem dX12_reckons_15 : decode cX12_reckons 15 = .ok (.aload_n 0, 1) := by decide +kernel
theorem dX12_reckons_16 : decode cX12_reckons 16 = .ok (.getfield 51, 3) := by decide +kernel
theorem dX12_reckons_19 : decode cX12_reckons 19 = .ok (.imul, 1) := by decide +kernel
theorem dX12_reckons_20 : decode cX12_reckons 20 = .ok (.iload_n 1, 1) := by decide +kernel
theorem dX12_reckons_21 : decode cX12_reckons 21 = .ok (.iadd, 1) := by decide +kernel
theorem dX12_reckons_22 : decode cX12_reckons 22 = .ok (.iaload, 1) := by decide +kernel
theorem dX12_reckons_23 : decode cX12_reckons 23 = .ok (.iadd, 1) := by decide +kernel
theorem dX12_reckons_24 : decode cX12_reckons 24 = .ok (.istore_n 3, 1) := by decide +kernel
theorem dX12_reckons_25 : decode cX12_reckons 25 = .ok (.iload_n 3, 1) := by decide +kernel
theorem dX12_reckons_26 : decode cX12_reckons 26 = .ok (.sipush 1600, 3) := by decide +kernel
theorem dX12_reckons_29 : decode cX12_reckons 29 = .ok (.aload_n 0, 1) := by decide +kernel
theorem dX12_reckons_30 : decode cX12_reckons 30 = .ok (.getfield 51, 3) := by decide +kernel
theorem dX12_reckons_33 : decode cX12_reckons 33 = .ok (.imul, 1) := by decide +kernel
theorem dX12_reckons_34 : decode cX12_reckons 34 = .ok (.aload_n 0, 1) := by decide +kernel
theorem dX12_reckons_35 : decode cX12_reckons 35 = .ok (.getfield 93, 3) := by decide +kernel
theorem dX12_reckons_38 : decode cX12_reckons 38 = .ok (.iconst 3, 1) := by decide +kernel
theorem dX12_reckons_39 : decode cX12_reckons 39 = .ok (.aload_n 0, 1) := by decide +kernel
theorem dX12_reckons_40 : decode cX12_reckons 40 = .ok (.getfield 51, 3) := by decide +kernel
theorem dX12_reckons_43 : decode cX12_reckons 43 = .ok (.imul, 1) := by decide +kernel
theorem dX12_reckons_44 : decode cX12_reckons 44 = .ok (.iload_n 1, 1) := by decide +kernel
theorem dX12_reckons_45 : decode cX12_reckons 45 = .ok (.iadd, 1) := by decide +kernel
theorem dX12_reckons_46 : decode cX12_reckons 46 = .ok (.iaload, 1) := by decide +kernel
theorem dX12_reckons_47 : decode cX12_reckons 47 = .ok (.iadd, 1) := by decide +kernel
theorem dX12_reckons_48 : decode cX12_reckons 48 = .ok (.if_icmp .ge 179, 3) := by decide +kernel
theorem dX12_reckons_51 : decode cX12_reckons 51 = .ok (.aload_n 0, 1) := by decide +kernel
theorem dX12_reckons_52 : decode cX12_reckons 52 = .ok (.getfield 96, 3) := by decide +kernel
theorem dX12_reckons_55 : decode cX12_reckons 55 = .ok (.iload_n 3, 1) := by decide +kernel
theorem dX12_reckons_56 : decode cX12_reckons 56 = .ok (.iaload, 1) := by decide +kernel
theorem dX12_reckons_57 : decode cX12_reckons 57 = .ok (.istore 4, 2) := by decide +kernel
theorem dX12_reckons_59 : decode cX12_reckons 59 = .ok (.iload 4, 2) := by decide +kernel
theorem dX12_reckons_61 : decode cX12_reckons 61 = .ok (.bipush 30, 2) := by decide +kernel
theorem dX12_reckons_63 : decode cX12_reckons 63 = .ok (.if_icmp .gt 49, 3) := by decide +kernel
theorem dX12_reckons_66 : decode cX12_reckons 66 = .ok (.aload_n 0, 1) := by decide +kernel
theorem dX12_reckons_67 : decode cX12_reckons 67 = .ok (.getfield 183, 3) := by decide +kernel
theorem dX12_reckons_70 : decode cX12_reckons 70 = .ok (.iload_n 2, 1) := by decide +kernel
theorem dX12_reckons_71 : decode cX12_reckons 71 = .ok (.iload 4, 2) := by decide +kernel
theorem dX12_reckons_73 : decode cX12_reckons 73 = .ok (.ifCond .ne 13, 3) := by decide +kernel
theorem dX12_reckons_76 : decode cX12_reckons 76 = .ok (.aload_n 0, 1) := by decide +kernel
theorem dX12_reckons_77 : decode cX12_reckons 77 = .ok (.getfield 99, 3) := by decide +kernel
theorem dX12_reckons_80 : decode cX12_reckons 80 = .ok (.iload_n 3, 1) := by decide +kernel
theorem dX12_reckons_81 : decode cX12_reckons 81 = .ok (.iaload, 1) := by decide +kernel
theorem dX12_reckons_82 : decode cX12_reckons 82 = .ok (.i2l, 1) := by decide +kernel
theorem dX12_reckons_83 : decode cX12_reckons 83 = .ok (.goto 22, 3) := by decide +kernel
theorem dX12_reckons_86 : decode cX12_reckons 86 = .ok (.iload 4, 2) := by decide +kernel
theorem dX12_reckons_88 : decode cX12_reckons 88 = .ok (.bipush 30, 2) := by decide +kernel
theorem dX12_reckons_90 : decode cX12_reckons 90 = .ok (.if_icmp .ne 7, 3) := by decide +kernel
theorem dX12_reckons_93 : decode cX12_reckons 93 = .ok (.lconst 1, 1) := by decide +kernel
theorem dX12_reckons_94 : decode cX12_reckons 94 = .ok (.goto 11, 3) := by decide +kernel
theorem dX12_reckons_97 : decode cX12_reckons 97 = .ok (.aload_n 0, 1) := by decide +kernel
theorem dX12_reckons_98 : decode cX12_reckons 98 = .ok (.getfield 186, 3) := by decide +kernel
theorem dX12_reckons_101 : decode cX12_reckons 101 = .ok (.iload 4, 2) := by decide +kernel
theorem dX12_reckons_103 : decode cX12_reckons 103 = .ok (.iaload, 1) := by decide +kernel
theorem dX12_reckons_104 : decode cX12_reckons 104 = .ok (.i2l, 1) := by decide +kernel
theorem dX12_reckons_105 : decode cX12_reckons 105 = .ok (.lastore, 1) := by decide +kernel
theorem dX12_reckons_106 : decode cX12_reckons 106 = .ok (.iinc 2 1, 3) := by decide +kernel
theorem dX12_reckons_109 : decode cX12_reckons 109 = .ok (.goto 112, 3) := by decide +kernel
theorem dX12_reckons_112 : decode cX12_reckons 112 = .ok (.iload 4, 2) := by decide +kernel
theorem dX12_reckons_114 : decode cX12_reckons 114 = .ok (.bipush 43, 2) := by decide +kernel
theorem dX12_reckons_116 : decode cX12_reckons 116 = .ok (.if_icmp .ne 24, 3) := by decide +kernel
theorem dX12_reckons_119 : decode cX12_reckons 119 = .ok (.aload_n 0, 1) := by decide +kernel
theorem dX12_reckons_120 : decode cX12_reckons 120 = .ok (.getfield 183, 3) := by decide +kernel
theorem dX12_reckons_123 : decode cX12_reckons 123 = .ok (.iload_n 2, 1) := by decide +kernel
theorem dX12_reckons_124 : decode cX12_reckons 124 = .ok (.iconst 1, 1) := by decide +kernel
theorem dX12_reckons_125 : decode cX12_reckons 125 = .ok (.isub, 1) := by decide +kernel
theorem dX12_reckons_126 : decode cX12_reckons 126 = .ok (.lconst 1, 1) := by decide +kernel
theorem dX12_reckons_127 : decode cX12_reckons 127 = .ok (.aload_n 0, 1) := by decide +kernel
theorem dX12_reckons_128 : decode cX12_reckons 128 = .ok (.getfield 183, 3) := by decide +kernel
theorem dX12_reckons_131 : decode cX12_reckons 131 = .ok (.iload_n 2, 1) := by decide +kernel
theorem dX12_reckons_132 : decode cX12_reckons 132 = .ok (.iconst 1, 1) := by decide +kernel
theorem dX12_reckons_133 : decode cX12_reckons 133 = .ok (.isub, 1) := by decide +kernel
theorem dX12_reckons_134 : decode cX12_reckons 134 = .ok (.laload, 1) := by decide +kernel
theorem dX12_reckons_135 : decode cX12_reckons 135 = .ok (.lsub, 1) := by decide +kernel
theorem dX12_reckons_136 : decode cX12_reckons 136 = .ok (.lastore, 1) := by decide +kernel
theorem dX12_reckons_137 : decode cX12_reckons 137 = .ok (.goto 84, 3) := by decide +kernel
theorem dX12_reckons_140 : decode cX12_reckons 140 = .ok (.iload 4, 2) := by decide +kernel
theorem dX12_reckons_142 : decode cX12_reckons 142 = .ok (.bipush 44, 2) := by decide +kernel
theorem dX12_reckons_144 : decode cX12_reckons 144 = .ok (.if_icmp .ne 47, 3) := by decide +kernel
theorem dX12_reckons_147 : decode cX12_reckons 147 = .ok (.iinc 2 (-2), 3) := by decide +kernel
theorem dX12_reckons_150 : decode cX12_reckons 150 = .ok (.aload_n 0, 1) := by decide +kernel
theorem dX12_reckons_151 : decode cX12_reckons 151 = .ok (.getfield 183, 3) := by decide +kernel
theorem dX12_reckons_154 : decode cX12_reckons 154 = .ok (.iload_n 2, 1) := by decide +kernel
theorem dX12_reckons_155 : decode cX12_reckons 155 = .ok (.iconst 1, 1) := by decide +kernel
theorem dX12_reckons_156 : decode cX12_reckons 156 = .ok (.isub, 1) := by decide +kernel
theorem dX12_reckons_157 : decode cX12_reckons 157 = .ok (.aload_n 0, 1) := by decide +kernel
theorem dX12_reckons_158 : decode cX12_reckons 158 = .ok (.getfield 183, 3) := by decide +kernel
theorem dX12_reckons_161 : decode cX12_reckons 161 = .ok (.iload_n 2, 1) := by decide +kernel
theorem dX12_reckons_162 : decode cX12_reckons 162 = .ok (.iconst 1, 1) := by decide +kernel
theorem dX12_reckons_163 : decode cX12_reckons 163 = .ok (.isub, 1) := by decide +kernel
theorem dX12_reckons_164 : decode cX12_reckons 164 = .ok (.laload, 1) := by decide +kernel
theorem dX12_reckons_165 : decode cX12_reckons 165 = .ok (.lconst 1, 1) := by decide +kernel
theorem dX12_reckons_166 : decode cX12_reckons 166 = .ok (.lcmp, 1) := by decide +kernel
theorem dX12_reckons_167 : decode cX12_reckons 167 = .ok (.ifCond .ne 12, 3) := by decide +kernel
theorem dX12_reckons_170 : decode cX12_reckons 170 = .ok (.aload_n 0, 1) := by decide +kernel
theorem dX12_reckons_171 : decode cX12_reckons 171 = .ok (.getfield 183, 3) := by decide +kernel
theorem dX12_reckons_174 : decode cX12_reckons 174 = .ok (.iload_n 2, 1) := by decide +kernel
theorem dX12_reckons_175 : decode cX12_reckons 175 = .ok (.laload, 1) := by decide +kernel
theorem dX12_reckons_176 : decode cX12_reckons 176 = .ok (.goto 11, 3) := by decide +kernel
theorem dX12_reckons_179 : decode cX12_reckons 179 = .ok (.aload_n 0, 1) := by decide +kernel
theorem dX12_reckons_180 : decode cX12_reckons 180 = .ok (.getfield 183, 3) := by decide +kernel
theorem dX12_reckons_183 : decode cX12_reckons 183 = .ok (.iload_n 2, 1) := by decide +kernel
theorem dX12_reckons_184 : decode cX12_reckons 184 = .ok (.iconst 1, 1) := by decide +kernel
theorem dX12_reckons_185 : decode cX12_reckons 185 = .ok (.iadd, 1) := by decide +kernel
theorem dX12_reckons_186 : decode cX12_reckons 186 = .ok (.laload, 1) := by decide +kernel
theorem dX12_reckons_187 : decode cX12_reckons 187 = .ok (.lastore, 1) := by decide +kernel
theorem dX12_reckons_188 : decode cX12_reckons 188 = .ok (.goto 33, 3) := by decide +kernel
theorem dX12_reckons_191 : decode cX12_reckons 191 = .ok (.iinc 2 (-1), 3) := by decide +kernel
theorem dX12_reckons_194 : decode cX12_reckons 194 = .ok (.aload_n 0, 1) := by decide +kernel
theorem dX12_reckons_195 : decode cX12_reckons 195 = .ok (.getfield 183, 3) := by decide +kernel
theorem dX12_reckons_198 : decode cX12_reckons 198 = .ok (.iload_n 2, 1) := by decide +kernel
theorem dX12_reckons_199 : decode cX12_reckons 199 = .ok (.iconst 1, 1) := by decide +kernel
theorem dX12_reckons_200 : decode cX12_reckons 200 = .ok (.isub, 1) := by decide +kernel
theorem dX12_reckons_201 : decode cX12_reckons 201 = .ok (.iload 4, 2) := by decide +kernel
theorem dX12_reckons_203 : decode cX12_reckons 203 = .ok (.aload_n 0, 1) := by decide +kernel
theorem dX12_reckons_204 : decode cX12_reckons 204 = .ok (.getfield 183, 3) := by decide +kernel
theorem dX12_reckons_207 : decode cX12_reckons 207 = .ok (.iload_n 2, 1) := by decide +kernel
theorem dX12_reckons_208 : decode cX12_reckons 208 = .ok (.iconst 1, 1) := by decide +kernel
theorem dX12_reckons_209 : decode cX12_reckons 209 = .ok (.isub, 1) := by decide +kernel
theorem dX12_reckons_210 : decode cX12_reckons 210 = .ok (.laload, 1) := by decide +kernel
theorem dX12_reckons_211 : decode cX12_reckons 211 = .ok (.aload_n 0, 1) := by decide +kernel
theorem dX12_reckons_212 : decode cX12_reckons 212 = .ok (.getfield 183, 3) := by decide +kernel
theorem dX12_reckons_215 : decode cX12_reckons 215 = .ok (.iload_n 2, 1) := by decide +kernel
theorem dX12_reckons_216 : decode cX12_reckons 216 = .ok (.laload, 1) := by decide +kernel
theorem dX12_reckons_217 : decode cX12_reckons 217 = .ok (.invokestatic 439, 3) := by decide +kernel
theorem dX12_reckons_220 : decode cX12_reckons 220 = .ok (.lastore, 1) := by decide +kernel
theorem dX12_reckons_221 : decode cX12_reckons 221 = .ok (.iinc 3 1, 3) := by decide +kernel
theorem dX12_reckons_224 : decode cX12_reckons 224 = .ok (.goto (-199), 3) := by decide +kernel
theorem dX12_reckons_227 : decode cX12_reckons 227 = .ok (.aload_n 0, 1) := by decide +kernel
theorem dX12_reckons_228 : decode cX12_reckons 228 = .ok (.getfield 183, 3) := by decide +kernel
theorem dX12_reckons_231 : decode cX12_reckons 231 = .ok (.iconst 0, 1) := by decide +kernel
theorem dX12_reckons_232 : decode cX12_reckons 232 = .ok (.laload, 1) := by decide +kernel
theorem dX12_reckons_233 : decode cX12_reckons 233 = .ok (.lreturn, 1) := by decide +kernel
theorem dX12_isTold_0 : decode cX12_isTold 0 = .ok (.aload_n 0, 1) := by decide +kernel
theorem dX12_isTold_1 : decode cX12_isTold 1 = .ok (.getfield 90, 3) := by decide +kernel
theorem dX12_isTold_4 : decode cX12_isTold 4 = .ok (.iconst 3, 1) := by decide +kernel
theorem dX12_isTold_5 : decode cX12_isTold 5 = .ok (.aload_n 0, 1) := by decide +kernel
theorem dX12_isTold_6 : decode cX12_isTold 6 = .ok (.getfield 51, 3) := by decide +kernel
theorem dX12_isTold_9 : decode cX12_isTold 9 = .ok (.imul, 1) := by decide +kernel
theorem dX12_isTold_10 : decode cX12_isTold 10 = .ok (.iload_n 1, 1) := by decide +kernel
theorem dX12_isTold_11 : decode cX12_isTold 11 = .ok (.iadd, 1) := by decide +kernel
theorem dX12_isTold_12 : decode cX12_isTold 12 = .ok (.iaload, 1) := by decide +kernel
theorem dX12_isTold_13 : decode cX12_isTold 13 = .ok (.iconst (-1), 1) := by decide +kernel
theorem dX12_isTold_14 : decode cX12_isTold 14 = .ok (.if_icmp .eq 7, 3) := by decide +kernel
theorem dX12_isTold_17 : decode cX12_isTold 17 = .ok (.iconst 1, 1) := by decide +kernel
theorem dX12_isTold_18 : decode cX12_isTold 18 = .ok (.goto 4, 3) := by decide +kernel
theorem dX12_isTold_21 : decode cX12_isTold 21 = .ok (.iconst 0, 1) := by decide +kernel
theorem dX12_isTold_22 : decode cX12_isTold 22 = .ok (.ireturn, 1) := by decide +kernel
theorem dX12_bits_0 : decode cX12_bits 0 = .ok (.iconst 0, 1) := by decide +kernel
theorem dX12_bits_1 : decode cX12_bits 1 = .ok (.istore_n 1, 1) := by decide +kernel
theorem dX12_bits_2 : decode cX12_bits 2 = .ok (.iload_n 0, 1) := by decide +kernel
theorem dX12_bits_3 : decode cX12_bits 3 = .ok (.istore_n 2, 1) := by decide +kernel
theorem dX12_bits_4 : decode cX12_bits 4 = .ok (.iload_n 2, 1) := by decide +kernel
theorem dX12_bits_5 : decode cX12_bits 5 = .ok (.ifCond .eq 15, 3) := by decide +kernel
theorem dX12_bits_8 : decode cX12_bits 8 = .ok (.iinc 1 1, 3) := by decide +kernel
theorem dX12_bits_11 : decode cX12_bits 11 = .ok (.iload_n 2, 1) := by decide +kernel
theorem dX12_bits_12 : decode cX12_bits 12 = .ok (.iload_n 2, 1) := by decide +kernel
theorem dX12_bits_13 : decode cX12_bits 13 = .ok (.iconst 1, 1) := by decide +kernel
theorem dX12_bits_14 : decode cX12_bits 14 = .ok (.isub, 1) := by decide +kernel
theorem dX12_bits_15 : decode cX12_bits 15 = .ok (.iand, 1) := by decide +kernel
theorem dX12_bits_16 : decode cX12_bits 16 = .ok (.istore_n 2, 1) := by decide +kernel
theorem dX12_bits_17 : decode cX12_bits 17 = .ok (.goto (-13), 3) := by decide +kernel
theorem dX12_bits_20 : decode cX12_bits 20 = .ok (.iload_n 1, 1) := by decide +kernel
theorem dX12_bits_21 : decode cX12_bits 21 = .ok (.ireturn, 1) := by decide +kernel
theorem dX12_gap_0 : decode cX12_gap 0 = .ok (.iload_n 0, 1) := by decide +kernel
theorem dX12_gap_1 : decode cX12_gap 1 = .ok (.iload_n 1, 1) := by decide +kernel
theorem dX12_gap_2 : decode cX12_gap 2 = .ok (.if_icmp .le 9, 3) := by decide +kernel
theorem dX12_gap_5 : decode cX12_gap 5 = .ok (.iload_n 0, 1) := by decide +kernel
theorem dX12_gap_6 : decode cX12_gap 6 = .ok (.iload_n 1, 1) := by decide +kernel
theorem dX12_gap_7 : decode cX12_gap 7 = .ok (.isub, 1) := by decide +kernel
theorem dX12_gap_8 : decode cX12_gap 8 = .ok (.goto 6, 3) := by decide +kernel
theorem dX12_gap_11 : decode cX12_gap 11 = .ok (.iload_n 1, 1) := by decide +kernel
theorem dX12_gap_12 : decode cX12_gap 12 = .ok (.iload_n 0, 1) := by decide +kernel
theorem dX12_gap_13 : decode cX12_gap 13 = .ok (.isub, 1) := by decide +kernel
theorem dX12_gap_14 : decode cX12_gap 14 = .ok (.ireturn, 1) := by decide +kernel
theorem dX12_matchOf_0 : decode cX12_matchOf 0 = .ok (.iconst 0, 1) := by decide +kernel
theorem dX12_matchOf_1 : decode cX12_matchOf 1 = .ok (.istore 4, 2) := by decide +kernel
theorem dX12_matchOf_3 : decode cX12_matchOf 3 = .ok (.iconst 0, 1) := by decide +kernel
theorem dX12_matchOf_4 : decode cX12_matchOf 4 = .ok (.istore 5, 2) := by decide +kernel
theorem dX12_matchOf_6 : decode cX12_matchOf 6 = .ok (.iload 5, 2) := by decide +kernel
theorem dX12_matchOf_8 : decode cX12_matchOf 8 = .ok (.iconst 3, 1) := by decide +kernel
theorem dX12_matchOf_9 : decode cX12_matchOf 9 = .ok (.if_icmp .ge 70, 3) := by decide +kernel
theorem dX12_matchOf_12 : decode cX12_matchOf 12 = .ok (.iload 4, 2) := by decide +kernel
theorem dX12_matchOf_14 : decode cX12_matchOf 14 = .ok (.aload_n 0, 1) := by decide +kernel
theorem dX12_matchOf_15 : decode cX12_matchOf 15 = .ok (.getfield 180, 3) := by decide +kernel
theorem dX12_matchOf_18 : decode cX12_matchOf 18 = .ok (.iconst 3, 1) := by decide +kernel
theorem dX12_matchOf_19 : decode cX12_matchOf 19 = .ok (.iload_n 1, 1) := by decide +kernel
theorem dX12_matchOf_20 : decode cX12_matchOf 20 = .ok (.imul, 1) := by decide +kernel
theorem dX12_matchOf_21 : decode cX12_matchOf 21 = .ok (.iload 5, 2) := by decide +kernel
theorem dX12_matchOf_23 : decode cX12_matchOf 23 = .ok (.iadd, 1) := by decide +kernel
theorem dX12_matchOf_24 : decode cX12_matchOf 24 = .ok (.iaload, 1) := by decide +kernel
theorem dX12_matchOf_25 : decode cX12_matchOf 25 = .ok (.bipush 9, 2) := by decide +kernel
theorem dX12_matchOf_27 : decode cX12_matchOf 27 = .ok (.aload_n 0, 1) := by decide +kernel
theorem dX12_matchOf_28 : decode cX12_matchOf 28 = .ok (.getfield 75, 3) := by decide +kernel
theorem dX12_matchOf_31 : decode cX12_matchOf 31 = .ok (.bipush 18, 2) := by decide +kernel
theorem dX12_matchOf_33 : decode cX12_matchOf 33 = .ok (.aload_n 0, 1) := by decide +kernel
theorem dX12_matchOf_34 : decode cX12_matchOf 34 = .ok (.getfield 51, 3) := by decide +kernel
theorem dX12_matchOf_37 : decode cX12_matchOf 37 = .ok (.imul, 1) := by decide +kernel
theorem dX12_matchOf_38 : decode cX12_matchOf 38 = .ok (.iconst 3, 1) := by decide +kernel
theorem dX12_matchOf_39 : decode cX12_matchOf 39 = .ok (.iload_n 2, 1) := by decide +kernel
theorem dX12_matchOf_40 : decode cX12_matchOf 40 = .ok (.imul, 1) := by decide +kernel
theorem dX12_matchOf_41 : decode cX12_matchOf 41 = .ok (.iadd, 1) := by decide +kernel
theorem dX12_matchOf_42 : decode cX12_matchOf 42 = .ok (.iload 5, 2) := by decide +kernel
theorem dX12_matchOf_44 : decode cX12_matchOf 44 = .ok (.iadd, 1) := by decide +kernel
theorem dX12_matchOf_45 : decode cX12_matchOf 45 = .ok (.iaload, 1) := by decide +kernel
theorem dX12_matchOf_46 : decode cX12_matchOf 46 = .ok (.aload_n 0, 1) := by decide +kernel
theorem dX12_matchOf_47 : decode cX12_matchOf 47 = .ok (.getfield 66, 3) := by decide +kernel
theorem dX12_matchOf_50 : decode cX12_matchOf 50 = .ok (.bipush 18, 2) := by decide +kernel
theorem dX12_matchOf_52 : decode cX12_matchOf 52 = .ok (.aload_n 0, 1) := by decide +kernel
theorem dX12_matchOf_53 : decode cX12_matchOf 53 = .ok (.getfield 51, 3) := by decide +kernel
theorem dX12_matchOf_56 : decode cX12_matchOf 56 = .ok (.imul, 1) := by decide +kernel
theorem dX12_matchOf_57 : decode cX12_matchOf 57 = .ok (.iconst 3, 1) := by decide +kernel
theorem dX12_matchOf_58 : decode cX12_matchOf 58 = .ok (.iload_n 3, 1) := by decide +kernel
theorem dX12_matchOf_59 : decode cX12_matchOf 59 = .ok (.imul, 1) := by decide +kernel
theorem dX12_matchOf_60 : decode cX12_matchOf 60 = .ok (.iadd, 1) := by decide +kernel
theorem dX12_matchOf_61 : decode cX12_matchOf 61 = .ok (.iload 5, 2) := by decide +kernel
theorem dX12_matchOf_63 : decode cX12_matchOf 63 = .ok (.iadd, 1) := by decide +kernel
theorem dX12_matchOf_64 : decode cX12_matchOf 64 = .ok (.iaload, 1) := by decide +kernel
theorem dX12_matchOf_65 : decode cX12_matchOf 65 = .ok (.invokestatic 443, 3) := by decide +kernel
theorem dX12_matchOf_68 : decode cX12_matchOf 68 = .ok (.isub, 1) := by decide +kernel
theorem dX12_matchOf_69 : decode cX12_matchOf 69 = .ok (.imul, 1) := by decide +kernel
theorem dX12_matchOf_70 : decode cX12_matchOf 70 = .ok (.iadd, 1) := by decide +kernel
theorem dX12_matchOf_71 : decode cX12_matchOf 71 = .ok (.istore 4, 2) := by decide +kernel
theorem dX12_matchOf_73 : decode cX12_matchOf 73 = .ok (.iinc 5 1, 3) := by decide +kernel
theorem dX12_matchOf_76 : decode cX12_matchOf 76 = .ok (.goto (-70), 3) := by decide +kernel
theorem dX12_matchOf_79 : decode cX12_matchOf 79 = .ok (.iload 4, 2) := by decide +kernel
theorem dX12_matchOf_81 : decode cX12_matchOf 81 = .ok (.ireturn, 1) := by decide +kernel
theorem dX12_wornOf_0 : decode cX12_wornOf 0 = .ok (.iconst 0, 1) := by decide +kernel
theorem dX12_wornOf_1 : decode cX12_wornOf 1 = .ok (.istore_n 3, 1) := by decide +kernel
theorem dX12_wornOf_2 : decode cX12_wornOf 2 = .ok (.iconst 0, 1) := by decide +kernel
theorem dX12_wornOf_3 : decode cX12_wornOf 3 = .ok (.istore 4, 2) := by decide +kernel
theorem dX12_wornOf_5 : decode cX12_wornOf 5 = .ok (.iload 4, 2) := by decide +kernel
theorem dX12_wornOf_7 : decode cX12_wornOf 7 = .ok (.aload_n 0, 1) := by decide +kernel
theorem dX12_wornOf_8 : decode cX12_wornOf 8 = .ok (.getfield 72, 3) := by decide +kernel
theorem dX12_wornOf_11 : decode cX12_wornOf 11 = .ok (.aload_n 0, 1) := by decide +kernel
theorem dX12_wornOf_12 : decode cX12_wornOf 12 = .ok (.getfield 51, 3) := by decide +kernel
theorem dX12_wornOf_15 : decode cX12_wornOf 15 = .ok (.iaload, 1) := by decide +kernel
theorem dX12_wornOf_16 : decode cX12_wornOf 16 = .ok (.if_icmp .ge 33, 3) := by decide +kernel
theorem dX12_wornOf_19 : decode cX12_wornOf 19 = .ok (.iload_n 3, 1) := by decide +kernel
theorem dX12_wornOf_20 : decode cX12_wornOf 20 = .ok (.aload_n 0, 1) := by decide +kernel
theorem dX12_wornOf_21 : decode cX12_wornOf 21 = .ok (.getfield 162, 3) := by decide +kernel
theorem dX12_wornOf_24 : decode cX12_wornOf 24 = .ok (.bipush 6, 2) := by decide +kernel
theorem dX12_wornOf_26 : decode cX12_wornOf 26 = .ok (.iload_n 1, 1) := by decide +kernel
theorem dX12_wornOf_27 : decode cX12_wornOf 27 = .ok (.imul, 1) := by decide +kernel
theorem dX12_wornOf_28 : decode cX12_wornOf 28 = .ok (.iload 4, 2) := by decide +kernel
theorem dX12_wornOf_30 : decode cX12_wornOf 30 = .ok (.iadd, 1) := by decide +kernel
theorem dX12_wornOf_31 : decode cX12_wornOf 31 = .ok (.iaload, 1) := by decide +kernel
theorem dX12_wornOf_32 : decode cX12_wornOf 32 = .ok (.iload_n 2, 1) := by decide +kernel
theorem dX12_wornOf_33 : decode cX12_wornOf 33 = .ok (.if_icmp .ne 7, 3) := by decide +kernel
theorem dX12_wornOf_36 : decode cX12_wornOf 36 = .ok (.iconst 1, 1) := by decide +kernel
theorem dX12_wornOf_37 : decode cX12_wornOf 37 = .ok (.goto 4, 3) := by decide +kernel
theorem dX12_wornOf_40 : decode cX12_wornOf 40 = .ok (.iconst 0, 1) := by decide +kernel
theorem dX12_wornOf_41 : decode cX12_wornOf 41 = .ok (.iadd, 1) := by decide +kernel
theorem dX12_wornOf_42 : decode cX12_wornOf 42 = .ok (.istore_n 3, 1) := by decide +kernel
theorem dX12_wornOf_43 : decode cX12_wornOf 43 = .ok (.iinc 4 1, 3) := by decide +kernel
theorem dX12_wornOf_46 : decode cX12_wornOf 46 = .ok (.goto (-41), 3) := by decide +kernel
theorem dX12_wornOf_49 : decode cX12_wornOf 49 = .ok (.iload_n 3, 1) := by decide +kernel
theorem dX12_wornOf_50 : decode cX12_wornOf 50 = .ok (.ireturn, 1) := by decide +kernel
theorem dX12_lays_0 : decode cX12_lays 0 = .ok (.aload_n 0, 1) := by decide +kernel
theorem dX12_lays_1 : decode cX12_lays 1 = .ok (.getfield 186, 3) := by decide +kernel
theorem dX12_lays_4 : decode cX12_lays 4 = .ok (.iconst 1, 1) := by decide +kernel
theorem dX12_lays_5 : decode cX12_lays 5 = .ok (.aload_n 0, 1) := by decide +kernel
theorem dX12_lays_6 : decode cX12_lays 6 = .ok (.getfield 150, 3) := by decide +kernel
theorem dX12_lays_9 : decode cX12_lays 9 = .ok (.iload_n 1, 1) := by decide +kernel
theorem dX12_lays_10 : decode cX12_lays 10 = .ok (.iaload, 1) := by decide +kernel
theorem dX12_lays_11 : decode cX12_lays 11 = .ok (.iastore, 1) := by decide +kernel
theorem dX12_lays_12 : decode cX12_lays 12 = .ok (.aload_n 0, 1) := by decide +kernel
theorem dX12_lays_13 : decode cX12_lays 13 = .ok (.getfield 186, 3) := by decide +kernel
theorem dX12_lays_16 : decode cX12_lays 16 = .ok (.iconst 2, 1) := by decide +kernel
theorem dX12_lays_17 : decode cX12_lays 17 = .ok (.aload_n 0, 1) := by decide +kernel
theorem dX12_lays_18 : decode cX12_lays 18 = .ok (.getfield 159, 3) := by decide +kernel
theorem dX12_lays_21 : decode cX12_lays 21 = .ok (.bipush 6, 2) := by decide +kernel
theorem dX12_lays_23 : decode cX12_lays 23 = .ok (.iload_n 1, 1) := by decide +kernel
theorem dX12_lays_24 : decode cX12_lays 24 = .ok (.imul, 1) := by decide +kernel
theorem dX12_lays_25 : decode cX12_lays 25 = .ok (.iload_n 2, 1) := by decide +kernel
theorem dX12_lays_26 : decode cX12_lays 26 = .ok (.iadd, 1) := by decide +kernel
theorem dX12_lays_27 : decode cX12_lays 27 = .ok (.iaload, 1) := by decide +kernel
theorem dX12_lays_28 : decode cX12_lays 28 = .ok (.iastore, 1) := by decide +kernel
theorem dX12_lays_29 : decode cX12_lays 29 = .ok (.aload_n 0, 1) := by decide +kernel
theorem dX12_lays_30 : decode cX12_lays 30 = .ok (.getfield 186, 3) := by decide +kernel
theorem dX12_lays_33 : decode cX12_lays 33 = .ok (.iconst 3, 1) := by decide +kernel
theorem dX12_lays_34 : decode cX12_lays 34 = .ok (.aload_n 0, 1) := by decide +kernel
theorem dX12_lays_35 : decode cX12_lays 35 = .ok (.getfield 60, 3) := by decide +kernel
theorem dX12_lays_38 : decode cX12_lays 38 = .ok (.aload_n 0, 1) := by decide +kernel
theorem dX12_lays_39 : decode cX12_lays 39 = .ok (.getfield 51, 3) := by decide +kernel
theorem dX12_lays_42 : decode cX12_lays 42 = .ok (.iaload, 1) := by decide +kernel
theorem dX12_lays_43 : decode cX12_lays 43 = .ok (.iload_n 2, 1) := by decide +kernel
theorem dX12_lays_44 : decode cX12_lays 44 = .ok (.invokestatic 351, 3) := by decide +kernel
theorem dX12_lays_47 : decode cX12_lays 47 = .ok (.ifCond .eq 7, 3) := by decide +kernel
theorem dX12_lays_50 : decode cX12_lays 50 = .ok (.iconst 1, 1) := by decide +kernel
theorem dX12_lays_51 : decode cX12_lays 51 = .ok (.goto 4, 3) := by decide +kernel
theorem dX12_lays_54 : decode cX12_lays 54 = .ok (.iconst 0, 1) := by decide +kernel
theorem dX12_lays_55 : decode cX12_lays 55 = .ok (.iastore, 1) := by decide +kernel
theorem dX12_lays_56 : decode cX12_lays 56 = .ok (.return_, 1) := by decide +kernel
theorem dX12_scoreOf_0 : decode cX12_scoreOf 0 = .ok (.aload_n 0, 1) := by decide +kernel
theorem dX12_scoreOf_1 : decode cX12_scoreOf 1 = .ok (.iload_n 2, 1) := by decide +kernel
theorem dX12_scoreOf_2 : decode cX12_scoreOf 2 = .ok (.iload_n 3, 1) := by decide +kernel
theorem dX12_scoreOf_3 : decode cX12_scoreOf 3 = .ok (.iload 4, 2) := by decide +kernel
theorem dX12_scoreOf_5 : decode cX12_scoreOf 5 = .ok (.invokevirtual 446, 3) := by decide +kernel
theorem dX12_scoreOf_8 : decode cX12_scoreOf 8 = .ok (.istore 6, 2) := by decide +kernel
theorem dX12_scoreOf_10 : decode cX12_scoreOf 10 = .ok (.aload_n 0, 1) := by decide +kernel
theorem dX12_scoreOf_11 : decode cX12_scoreOf 11 = .ok (.iconst 0, 1) := by decide +kernel
theorem dX12_scoreOf_12 : decode cX12_scoreOf 12 = .ok (.invokevirtual 450, 3) := by decide +kernel
theorem dX12_scoreOf_15 : decode cX12_scoreOf 15 = .ok (.ifCond .ne 7, 3) := by decide +kernel
theorem dX12_scoreOf_18 : decode cX12_scoreOf 18 = .ok (.iload 6, 2) := by decide +kernel
theorem dX12_scoreOf_20 : decode cX12_scoreOf 20 = .ok (.i2l, 1) := by decide +kernel
theorem dX12_scoreOf_21 : decode cX12_scoreOf 21 = .ok (.lreturn, 1) := by decide +kernel
theorem dX12_scoreOf_22 : decode cX12_scoreOf 22 = .ok (.aload_n 0, 1) := by decide +kernel
theorem dX12_scoreOf_23 : decode cX12_scoreOf 23 = .ok (.iload_n 1, 1) := by decide +kernel
theorem dX12_scoreOf_24 : decode cX12_scoreOf 24 = .ok (.iload_n 2, 1) := by decide +kernel
theorem dX12_scoreOf_25 : decode cX12_scoreOf 25 = .ok (.invokevirtual 453, 3) := by decide +kernel
theorem dX12_scoreOf_28 : decode cX12_scoreOf 28 = .ok (.aload_n 0, 1) := by decide +kernel
theorem dX12_scoreOf_29 : decode cX12_scoreOf 29 = .ok (.getfield 186, 3) := by decide +kernel
theorem dX12_scoreOf_32 : decode cX12_scoreOf 32 = .ok (.iconst 4, 1) := by decide +kernel
theorem dX12_scoreOf_33 : decode cX12_scoreOf 33 = .ok (.iload 6, 2) := by decide +kernel
theorem dX12_scoreOf_35 : decode cX12_scoreOf 35 = .ok (.iastore, 1) := by decide +kernel
theorem dX12_scoreOf_36 : decode cX12_scoreOf 36 = .ok (.aload_n 0, 1) := by decide +kernel
theorem dX12_scoreOf_37 : decode cX12_scoreOf 37 = .ok (.getfield 186, 3) := by decide +kernel
theorem dX12_scoreOf_40 : decode cX12_scoreOf 40 = .ok (.iconst 5, 1) := by decide +kernel
theorem dX12_scoreOf_41 : decode cX12_scoreOf 41 = .ok (.aload_n 0, 1) := by decide +kernel
theorem dX12_scoreOf_42 : decode cX12_scoreOf 42 = .ok (.iload_n 1, 1) := by decide +kernel
theorem dX12_scoreOf_43 : decode cX12_scoreOf 43 = .ok (.iload 4, 2) := by decide +kernel
theorem dX12_scoreOf_45 : decode cX12_scoreOf 45 = .ok (.invokevirtual 456, 3) := by decide +kernel
theorem dX12_scoreOf_48 : decode cX12_scoreOf 48 = .ok (.iastore, 1) := by decide +kernel
theorem dX12_scoreOf_49 : decode cX12_scoreOf 49 = .ok (.aload_n 0, 1) := by decide +kernel
theorem dX12_scoreOf_50 : decode cX12_scoreOf 50 = .ok (.getfield 186, 3) := by decide +kernel
theorem dX12_scoreOf_53 : decode cX12_scoreOf 53 = .ok (.bipush 6, 2) := by decide +kernel
theorem dX12_scoreOf_55 : decode cX12_scoreOf 55 = .ok (.iload 5, 2) := by decide +kernel
theorem dX12_scoreOf_57 : decode cX12_scoreOf 57 = .ok (.iastore, 1) := by decide +kernel
theorem dX12_scoreOf_58 : decode cX12_scoreOf 58 = .ok (.aload_n 0, 1) := by decide +kernel
theorem dX12_scoreOf_59 : decode cX12_scoreOf 59 = .ok (.getfield 186, 3) := by decide +kernel
theorem dX12_scoreOf_62 : decode cX12_scoreOf 62 = .ok (.bipush 7, 2) := by decide +kernel
theorem dX12_scoreOf_64 : decode cX12_scoreOf 64 = .ok (.aload_n 0, 1) := by decide +kernel
theorem dX12_scoreOf_65 : decode cX12_scoreOf 65 = .ok (.getfield 69, 3) := by decide +kernel
theorem dX12_scoreOf_68 : decode cX12_scoreOf 68 = .ok (.bipush 6, 2) := by decide +kernel
theorem dX12_scoreOf_70 : decode cX12_scoreOf 70 = .ok (.aload_n 0, 1) := by decide +kernel
theorem dX12_scoreOf_71 : decode cX12_scoreOf 71 = .ok (.getfield 51, 3) := by decide +kernel
theorem dX12_scoreOf_74 : decode cX12_scoreOf 74 = .ok (.imul, 1) := by decide +kernel
theorem dX12_scoreOf_75 : decode cX12_scoreOf 75 = .ok (.iload 4, 2) := by decide +kernel
theorem dX12_scoreOf_77 : decode cX12_scoreOf 77 = .ok (.iadd, 1) := by decide +kernel
theorem dX12_scoreOf_78 : decode cX12_scoreOf 78 = .ok (.iaload, 1) := by decide +kernel
theorem dX12_scoreOf_79 : decode cX12_scoreOf 79 = .ok (.iastore, 1) := by decide +kernel
theorem dX12_scoreOf_80 : decode cX12_scoreOf 80 = .ok (.aload_n 0, 1) := by decide +kernel
theorem dX12_scoreOf_81 : decode cX12_scoreOf 81 = .ok (.iconst 0, 1) := by decide +kernel
theorem dX12_scoreOf_82 : decode cX12_scoreOf 82 = .ok (.invokevirtual 459, 3) := by decide +kernel
theorem dX12_scoreOf_85 : decode cX12_scoreOf 85 = .ok (.lreturn, 1) := by decide +kernel
theorem dX12_isCounting_0 : decode cX12_isCounting 0 = .ok (.aload_n 0, 1) := by decide +kernel
theorem dX12_isCounting_1 : decode cX12_isCounting 1 = .ok (.iconst 1, 1) := by decide +kernel
theorem dX12_isCounting_2 : decode cX12_isCounting 2 = .ok (.invokevirtual 450, 3) := by decide +kernel
theorem dX12_isCounting_5 : decode cX12_isCounting 5 = .ok (.ifCond .ne 5, 3) := by decide +kernel
theorem dX12_isCounting_8 : decode cX12_isCounting 8 = .ok (.iconst 1, 1) := by decide +kernel
theorem dX12_isCounting_9 : decode cX12_isCounting 9 = .ok (.ireturn, 1) := by decide +kernel
theorem dX12_isCounting_10 : decode cX12_isCounting 10 = .ok (.aload_n 0, 1) := by decide +kernel
theorem dX12_isCounting_11 : decode cX12_isCounting 11 = .ok (.iload_n 1, 1) := by decide +kernel
theorem dX12_isCounting_12 : decode cX12_isCounting 12 = .ok (.iload_n 2, 1) := by decide +kernel
theorem dX12_isCounting_13 : decode cX12_isCounting 13 = .ok (.invokevirtual 453, 3) := by decide +kernel
theorem dX12_isCounting_16 : decode cX12_isCounting 16 = .ok (.aload_n 0, 1) := by decide +kernel
theorem dX12_isCounting_17 : decode cX12_isCounting 17 = .ok (.iconst 1, 1) := by decide +kernel
theorem dX12_isCounting_18 : decode cX12_isCounting 18 = .ok (.invokevirtual 459, 3) := by decide +kernel
theorem dX12_isCounting_21 : decode cX12_isCounting 21 = .ok (.lconst 1, 1) := by decide +kernel
theorem dX12_isCounting_22 : decode cX12_isCounting 22 = .ok (.lcmp, 1) := by decide +kernel
theorem dX12_isCounting_23 : decode cX12_isCounting 23 = .ok (.ifCond .ne 7, 3) := by decide +kernel
theorem dX12_isCounting_26 : decode cX12_isCounting 26 = .ok (.iconst 1, 1) := by decide +kernel
theorem dX12_isCounting_27 : decode cX12_isCounting 27 = .ok (.goto 4, 3) := by decide +kernel
theorem dX12_isCounting_30 : decode cX12_isCounting 30 = .ok (.iconst 0, 1) := by decide +kernel
theorem dX12_isCounting_31 : decode cX12_isCounting 31 = .ok (.ireturn, 1) := by decide +kernel
theorem dX12_wordBy_0 : decode cX12_wordBy 0 = .ok (.iconst (-1), 1) := by decide +kernel
theorem dX12_wordBy_1 : decode cX12_wordBy 1 = .ok (.istore 4, 2) := by decide +kernel
theorem dX12_wordBy_3 : decode cX12_wordBy 3 = .ok (.lconst 0, 1) := by decide +kernel
theorem dX12_wordBy_4 : decode cX12_wordBy 4 = .ok (.lstore 5, 2) := by decide +kernel
theorem dX12_wordBy_6 : decode cX12_wordBy 6 = .ok (.iconst 0, 1) := by decide +kernel
theorem dX12_wordBy_7 : decode cX12_wordBy 7 = .ok (.istore 7, 2) := by decide +kernel
theorem dX12_wordBy_9 : decode cX12_wordBy 9 = .ok (.iload 7, 2) := by decide +kernel
theorem dX12_wordBy_11 : decode cX12_wordBy 11 = .ok (.aload_n 0, 1) := by decide +kernel
theorem dX12_wordBy_12 : decode cX12_wordBy 12 = .ok (.getfield 63, 3) := by decide +kernel
theorem dX12_wordBy_15 : decode cX12_wordBy 15 = .ok (.aload_n 0, 1) := by decide +kernel
theorem dX12_wordBy_16 : decode cX12_wordBy 16 = .ok (.getfield 51, 3) := by decide +kernel
theorem dX12_wordBy_19 : decode cX12_wordBy 19 = .ok (.iaload, 1) := by decide +kernel
theorem dX12_wordBy_20 : decode cX12_wordBy 20 = .ok (.if_icmp .ge 52, 3) := by decide +kernel
theorem dX12_wordBy_23 : decode cX12_wordBy 23 = .ok (.aload_n 0, 1) := by decide +kernel
theorem dX12_wordBy_24 : decode cX12_wordBy 24 = .ok (.iload_n 1, 1) := by decide +kernel
theorem dX12_wordBy_25 : decode cX12_wordBy 25 = .ok (.iload_n 2, 1) := by decide +kernel
theorem dX12_wordBy_26 : decode cX12_wordBy 26 = .ok (.iload_n 3, 1) := by decide +kernel
theorem dX12_wordBy_27 : decode cX12_wordBy 27 = .ok (.iload 7, 2) := by decide +kernel
theorem dX12_wordBy_29 : decode cX12_wordBy 29 = .ok (.aload_n 0, 1) := by decide +kernel
theorem dX12_wordBy_30 : decode cX12_wordBy 30 = .ok (.getfield 189, 3) := by decide +kernel
theorem dX12_wordBy_33 : decode cX12_wordBy 33 = .ok (.iload 7, 2) := by decide +kernel
theorem dX12_wordBy_35 : decode cX12_wordBy 35 = .ok (.iaload, 1) := by decide +kernel
theorem dX12_wordBy_36 : decode cX12_wordBy 36 = .ok (.invokevirtual 463, 3) := by decide +kernel
theorem dX12_wordBy_39 : decode cX12_wordBy 39 = .ok (.lstore 8, 2) := by decide +kernel
theorem dX12_wordBy_41 : decode cX12_wordBy 41 = .ok (.iload 4, 2) := by decide +kernel
theorem dX12_wordBy_43 : decode cX12_wordBy 43 = .ok (.iconst (-1), 1) := by decide +kernel
theorem dX12_wordBy_44 : decode cX12_wordBy 44 = .ok (.if_icmp .eq 14, 3) := by decide +kernel
theorem dX12_wordBy_47 : decode cX12_wordBy 47 = .ok (.lload 8, 2) := by decide +kernel
theorem dX12_wordBy_49 : decode cX12_wordBy 49 = .ok (.lload 5, 2) := by decide +kernel
theorem dX12_wordBy_51 : decode cX12_wordBy 51 = .ok (.lcmp, 1) := by decide +kernel
theorem dX12_wordBy_52 : decode cX12_wordBy 52 = .ok (.ifCond .gt 6, 3) := by decide +kernel
theorem dX12_wordBy_55 : decode cX12_wordBy 55 = .ok (.goto 11, 3) := by decide +kernel
theorem dX12_wordBy_58 : decode cX12_wordBy 58 = .ok (.iload 7, 2) := by decide +kernel
theorem dX12_wordBy_60 : decode cX12_wordBy 60 = .ok (.istore 4, 2) := by decide +kernel
theorem dX12_wordBy_62 : decode cX12_wordBy 62 = .ok (.lload 8, 2) := by decide +kernel
theorem dX12_wordBy_64 : decode cX12_wordBy 64 = .ok (.lstore 5, 2) := by decide +kernel
theorem dX12_wordBy_66 : decode cX12_wordBy 66 = .ok (.iinc 7 1, 3) := by decide +kernel
theorem dX12_wordBy_69 : decode cX12_wordBy 69 = .ok (.goto (-60), 3) := by decide +kernel
theorem dX12_wordBy_72 : decode cX12_wordBy 72 = .ok (.iload 4, 2) := by decide +kernel
theorem dX12_wordBy_74 : decode cX12_wordBy 74 = .ok (.ireturn, 1) := by decide +kernel
theorem dX12_hushes_0 : decode cX12_hushes 0 = .ok (.iconst 0, 1) := by decide +kernel
theorem dX12_hushes_1 : decode cX12_hushes 1 = .ok (.istore_n 1, 1) := by decide +kernel
theorem dX12_hushes_2 : decode cX12_hushes 2 = .ok (.iload_n 1, 1) := by decide +kernel
theorem dX12_hushes_3 : decode cX12_hushes 3 = .ok (.bipush 6, 2) := by decide +kernel
theorem dX12_hushes_5 : decode cX12_hushes 5 = .ok (.if_icmp .ge 16, 3) := by decide +kernel
theorem dX12_hushes_8 : decode cX12_hushes 8 = .ok (.aload_n 0, 1) := by decide +kernel
theorem dX12_hushes_9 : decode cX12_hushes 9 = .ok (.getfield 189, 3) := by decide +kernel
theorem dX12_hushes_12 : decode cX12_hushes 12 = .ok (.iload_n 1, 1) := by decide +kernel
theorem dX12_hushes_13 : decode cX12_hushes 13 = .ok (.iconst 0, 1) := by decide +kernel
theorem dX12_hushes_14 : decode cX12_hushes 14 = .ok (.iastore, 1) := by decide +kernel
theorem dX12_hushes_15 : decode cX12_hushes 15 = .ok (.iinc 1 1, 3) := by decide +kernel
theorem dX12_hushes_18 : decode cX12_hushes 18 = .ok (.goto (-16), 3) := by decide +kernel
theorem dX12_hushes_21 : decode cX12_hushes 21 = .ok (.iconst 0, 1) := by decide +kernel
theorem dX12_hushes_22 : decode cX12_hushes 22 = .ok (.istore_n 1, 1) := by decide +kernel
theorem dX12_hushes_23 : decode cX12_hushes 23 = .ok (.iload_n 1, 1) := by decide +kernel
theorem dX12_hushes_24 : decode cX12_hushes 24 = .ok (.bipush 6, 2) := by decide +kernel
theorem dX12_hushes_26 : decode cX12_hushes 26 = .ok (.if_icmp .ge 16, 3) := by decide +kernel
theorem dX12_hushes_29 : decode cX12_hushes 29 = .ok (.aload_n 0, 1) := by decide +kernel
theorem dX12_hushes_30 : decode cX12_hushes 30 = .ok (.getfield 192, 3) := by decide +kernel
theorem dX12_hushes_33 : decode cX12_hushes 33 = .ok (.iload_n 1, 1) := by decide +kernel
theorem dX12_hushes_34 : decode cX12_hushes 34 = .ok (.iconst (-1), 1) := by decide +kernel
theorem dX12_hushes_35 : decode cX12_hushes 35 = .ok (.iastore, 1) := by decide +kernel
theorem dX12_hushes_36 : decode cX12_hushes 36 = .ok (.iinc 1 1, 3) := by decide +kernel
theorem dX12_hushes_39 : decode cX12_hushes 39 = .ok (.goto (-16), 3) := by decide +kernel
theorem dX12_hushes_42 : decode cX12_hushes 42 = .ok (.return_, 1) := by decide +kernel
