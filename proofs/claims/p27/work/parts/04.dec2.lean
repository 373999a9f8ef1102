theorem dL_asked_0 : decode cL_asked 0 = .ok (.iload_n 1, 1) := by decide +kernel
theorem dL_asked_1 : decode cL_asked 1 = .ok (.bipush 96, 2) := by decide +kernel
theorem dL_asked_3 : decode cL_asked 3 = .ok (.irem, 1) := by decide +kernel
theorem dL_asked_4 : decode cL_asked 4 = .ok (.istore_n 3, 1) := by decide +kernel
theorem dL_asked_5 : decode cL_asked 5 = .ok (.iload_n 2, 1) := by decide +kernel
theorem dL_asked_6 : decode cL_asked 6 = .ok (.bipush 6, 2) := by decide +kernel
theorem dL_asked_8 : decode cL_asked 8 = .ok (.irem, 1) := by decide +kernel
theorem dL_asked_9 : decode cL_asked 9 = .ok (.istore 4, 2) := by decide +kernel
theorem dL_asked_11 : decode cL_asked 11 = .ok (.aload_n 0, 1) := by decide +kernel
theorem dL_asked_12 : decode cL_asked 12 = .ok (.iload_n 3, 1) := by decide +kernel
theorem dL_asked_13 : decode cL_asked 13 = .ok (.iload 4, 2) := by decide +kernel
theorem dL_asked_15 : decode cL_asked 15 = .ok (.invokestatic 125, 3) := by decide +kernel
theorem dL_asked_18 : decode cL_asked 18 = .ok (.lstore 5, 2) := by decide +kernel
theorem dL_asked_20 : decode cL_asked 20 = .ok (.aload_n 0, 1) := by decide +kernel
theorem dL_asked_21 : decode cL_asked 21 = .ok (.iload_n 3, 1) := by decide +kernel
theorem dL_asked_22 : decode cL_asked 22 = .ok (.iload 4, 2) := by decide +kernel
theorem dL_asked_24 : decode cL_asked 24 = .ok (.invokestatic 127, 3) := by decide +kernel
theorem dL_asked_27 : decode cL_asked 27 = .ok (.lload 5, 2) := by decide +kernel
theorem dL_asked_29 : decode cL_asked 29 = .ok (.lcmp, 1) := by decide +kernel
theorem dL_asked_30 : decode cL_asked 30 = .ok (.ifCond .ne 24, 3) := by decide +kernel
theorem dL_asked_33 : decode cL_asked 33 = .ok (.iload 4, 2) := by decide +kernel
theorem dL_asked_35 : decode cL_asked 35 = .ok (.ifCond .gt 15, 3) := by decide +kernel
theorem dL_asked_38 : decode cL_asked 38 = .ok (.lload 5, 2) := by decide +kernel
theorem dL_asked_40 : decode cL_asked 40 = .ok (.aload_n 0, 1) := by decide +kernel
theorem dL_asked_41 : decode cL_asked 41 = .ok (.iload_n 3, 1) := by decide +kernel
theorem dL_asked_42 : decode cL_asked 42 = .ok (.iconst 2, 1) := by decide +kernel
theorem dL_asked_43 : decode cL_asked 43 = .ok (.invokestatic 101, 3) := by decide +kernel
theorem dL_asked_46 : decode cL_asked 46 = .ok (.lcmp, 1) := by decide +kernel
theorem dL_asked_47 : decode cL_asked 47 = .ok (.ifCond .ne 7, 3) := by decide +kernel
theorem dL_asked_50 : decode cL_asked 50 = .ok (.iconst 1, 1) := by decide +kernel
theorem dL_asked_51 : decode cL_asked 51 = .ok (.goto 4, 3) := by decide +kernel
theorem dL_asked_54 : decode cL_asked 54 = .ok (.iconst 0, 1) := by decide +kernel
theorem dL_asked_55 : decode cL_asked 55 = .ok (.istore 7, 2) := by decide +kernel
theorem dL_asked_57 : decode cL_asked 57 = .ok (.iload_n 1, 1) := by decide +kernel
theorem dL_asked_58 : decode cL_asked 58 = .ok (.bipush 96, 2) := by decide +kernel
theorem dL_asked_60 : decode cL_asked 60 = .ok (.idiv, 1) := by decide +kernel
theorem dL_asked_61 : decode cL_asked 61 = .ok (.iconst 3, 1) := by decide +kernel
theorem dL_asked_62 : decode cL_asked 62 = .ok (.irem, 1) := by decide +kernel
theorem dL_asked_63 : decode cL_asked 63 = .ok (.istore 8, 2) := by decide +kernel
theorem dL_asked_65 : decode cL_asked 65 = .ok (.iload_n 2, 1) := by decide +kernel
theorem dL_asked_66 : decode cL_asked 66 = .ok (.iconst 2, 1) := by decide +kernel
theorem dL_asked_67 : decode cL_asked 67 = .ok (.irem, 1) := by decide +kernel
theorem dL_asked_68 : decode cL_asked 68 = .ok (.ifCond .ne 7, 3) := by decide +kernel
theorem dL_asked_71 : decode cL_asked 71 = .ok (.iconst 1, 1) := by decide +kernel
theorem dL_asked_72 : decode cL_asked 72 = .ok (.goto 4, 3) := by decide +kernel
theorem dL_asked_75 : decode cL_asked 75 = .ok (.iconst 0, 1) := by decide +kernel
theorem dL_asked_76 : decode cL_asked 76 = .ok (.istore 9, 2) := by decide +kernel
theorem dL_asked_78 : decode cL_asked 78 = .ok (.aload_n 0, 1) := by decide +kernel
theorem dL_asked_79 : decode cL_asked 79 = .ok (.iload 9, 2) := by decide +kernel
theorem dL_asked_81 : decode cL_asked 81 = .ok (.iload 8, 2) := by decide +kernel
theorem dL_asked_83 : decode cL_asked 83 = .ok (.iload_n 3, 1) := by decide +kernel
theorem dL_asked_84 : decode cL_asked 84 = .ok (.bipush 12, 2) := by decide +kernel
theorem dL_asked_86 : decode cL_asked 86 = .ok (.idiv, 1) := by decide +kernel
theorem dL_asked_87 : decode cL_asked 87 = .ok (.iload_n 3, 1) := by decide +kernel
theorem dL_asked_88 : decode cL_asked 88 = .ok (.bipush 12, 2) := by decide +kernel
theorem dL_asked_90 : decode cL_asked 90 = .ok (.irem, 1) := by decide +kernel
theorem dL_asked_91 : decode cL_asked 91 = .ok (.iconst 1, 1) := by decide +kernel
theorem dL_asked_92 : decode cL_asked 92 = .ok (.iconst 1, 1) := by decide +kernel
theorem dL_asked_93 : decode cL_asked 93 = .ok (.invokestatic 129, 3) := by decide +kernel
theorem dL_asked_96 : decode cL_asked 96 = .ok (.lstore 10, 2) := by decide +kernel
theorem dL_asked_98 : decode cL_asked 98 = .ok (.aload_n 0, 1) := by decide +kernel
theorem dL_asked_99 : decode cL_asked 99 = .ok (.iload_n 3, 1) := by decide +kernel
theorem dL_asked_100 : decode cL_asked 100 = .ok (.iconst 0, 1) := by decide +kernel
theorem dL_asked_101 : decode cL_asked 101 = .ok (.invokestatic 101, 3) := by decide +kernel
theorem dL_asked_104 : decode cL_asked 104 = .ok (.lconst 1, 1) := by decide +kernel
theorem dL_asked_105 : decode cL_asked 105 = .ok (.lcmp, 1) := by decide +kernel
theorem dL_asked_106 : decode cL_asked 106 = .ok (.ifCond .ne 7, 3) := by decide +kernel
theorem dL_asked_109 : decode cL_asked 109 = .ok (.iconst 1, 1) := by decide +kernel
theorem dL_asked_110 : decode cL_asked 110 = .ok (.goto 4, 3) := by decide +kernel
theorem dL_asked_113 : decode cL_asked 113 = .ok (.iconst 0, 1) := by decide +kernel
theorem dL_asked_114 : decode cL_asked 114 = .ok (.istore 12, 2) := by decide +kernel
theorem dL_asked_116 : decode cL_asked 116 = .ok (.iload 8, 2) := by decide +kernel
theorem dL_asked_118 : decode cL_asked 118 = .ok (.ifCond .ne 89, 3) := by decide +kernel
theorem dL_asked_121 : decode cL_asked 121 = .ok (.iload 9, 2) := by decide +kernel
theorem dL_asked_123 : decode cL_asked 123 = .ok (.ifCond .eq 35, 3) := by decide +kernel
theorem dL_asked_126 : decode cL_asked 126 = .ok (.aload_n 0, 1) := by decide +kernel
theorem dL_asked_127 : decode cL_asked 127 = .ok (.iload_n 3, 1) := by decide +kernel
theorem dL_asked_128 : decode cL_asked 128 = .ok (.iconst 4, 1) := by decide +kernel
theorem dL_asked_129 : decode cL_asked 129 = .ok (.invokestatic 101, 3) := by decide +kernel
theorem dL_asked_132 : decode cL_asked 132 = .ok (.aload_n 0, 1) := by decide +kernel
theorem dL_asked_133 : decode cL_asked 133 = .ok (.iload_n 3, 1) := by decide +kernel
theorem dL_asked_134 : decode cL_asked 134 = .ok (.iconst 5, 1) := by decide +kernel
theorem dL_asked_135 : decode cL_asked 135 = .ok (.invokestatic 101, 3) := by decide +kernel
theorem dL_asked_138 : decode cL_asked 138 = .ok (.ladd, 1) := by decide +kernel
theorem dL_asked_139 : decode cL_asked 139 = .ok (.aload_n 0, 1) := by decide +kernel
theorem dL_asked_140 : decode cL_asked 140 = .ok (.iload_n 3, 1) := by decide +kernel
theorem dL_asked_141 : decode cL_asked 141 = .ok (.bipush 6, 2) := by decide +kernel
theorem dL_asked_143 : decode cL_asked 143 = .ok (.invokestatic 101, 3) := by decide +kernel
theorem dL_asked_146 : decode cL_asked 146 = .ok (.ladd, 1) := by decide +kernel
theorem dL_asked_147 : decode cL_asked 147 = .ok (.aload_n 0, 1) := by decide +kernel
theorem dL_asked_148 : decode cL_asked 148 = .ok (.iload_n 3, 1) := by decide +kernel
theorem dL_asked_149 : decode cL_asked 149 = .ok (.bipush 7, 2) := by decide +kernel
theorem dL_asked_151 : decode cL_asked 151 = .ok (.invokestatic 101, 3) := by decide +kernel
theorem dL_asked_154 : decode cL_asked 154 = .ok (.ladd, 1) := by decide +kernel
theorem dL_asked_155 : decode cL_asked 155 = .ok (.goto 151, 3) := by decide +kernel
theorem dL_asked_158 : decode cL_asked 158 = .ok (.aload_n 0, 1) := by decide +kernel
theorem dL_asked_159 : decode cL_asked 159 = .ok (.iload_n 3, 1) := by decide +kernel
theorem dL_asked_160 : decode cL_asked 160 = .ok (.iconst 2, 1) := by decide +kernel
theorem dL_asked_161 : decode cL_asked 161 = .ok (.invokestatic 101, 3) := by decide +kernel
theorem dL_asked_164 : decode cL_asked 164 = .ok (.l2i, 1) := by decide +kernel
theorem dL_asked_165 : decode cL_asked 165 = .ok (.iconst 1, 1) := by decide +kernel
theorem dL_asked_166 : decode cL_asked 166 = .ok (.iand, 1) := by decide +kernel
theorem dL_asked_167 : decode cL_asked 167 = .ok (.aload_n 0, 1) := by decide +kernel
theorem dL_asked_168 : decode cL_asked 168 = .ok (.iload_n 3, 1) := by decide +kernel
theorem dL_asked_169 : decode cL_asked 169 = .ok (.iconst 2, 1) := by decide +kernel
theorem dL_asked_170 : decode cL_asked 170 = .ok (.invokestatic 101, 3) := by decide +kernel
theorem dL_asked_173 : decode cL_asked 173 = .ok (.l2i, 1) := by decide +kernel
theorem dL_asked_174 : decode cL_asked 174 = .ok (.iconst 1, 1) := by decide +kernel
theorem dL_asked_175 : decode cL_asked 175 = .ok (.ishr, 1) := by decide +kernel
theorem dL_asked_176 : decode cL_asked 176 = .ok (.iconst 1, 1) := by decide +kernel
theorem dL_asked_177 : decode cL_asked 177 = .ok (.iand, 1) := by decide +kernel
theorem dL_asked_178 : decode cL_asked 178 = .ok (.iadd, 1) := by decide +kernel
theorem dL_asked_179 : decode cL_asked 179 = .ok (.aload_n 0, 1) := by decide +kernel
theorem dL_asked_180 : decode cL_asked 180 = .ok (.iload_n 3, 1) := by decide +kernel
theorem dL_asked_181 : decode cL_asked 181 = .ok (.iconst 2, 1) := by decide +kernel
theorem dL_asked_182 : decode cL_asked 182 = .ok (.invokestatic 101, 3) := by decide +kernel
theorem dL_asked_185 : decode cL_asked 185 = .ok (.l2i, 1) := by decide +kernel
theorem dL_asked_186 : decode cL_asked 186 = .ok (.iconst 2, 1) := by decide +kernel
theorem dL_asked_187 : decode cL_asked 187 = .ok (.ishr, 1) := by decide +kernel
theorem dL_asked_188 : decode cL_asked 188 = .ok (.iconst 1, 1) := by decide +kernel
theorem dL_asked_189 : decode cL_asked 189 = .ok (.iand, 1) := by decide +kernel
theorem dL_asked_190 : decode cL_asked 190 = .ok (.iadd, 1) := by decide +kernel
theorem dL_asked_191 : decode cL_asked 191 = .ok (.aload_n 0, 1) := by decide +kernel
theorem dL_asked_192 : decode cL_asked 192 = .ok (.iload_n 3, 1) := by decide +kernel
theorem dL_asked_193 : decode cL_asked 193 = .ok (.iconst 2, 1) := by decide +kernel
theorem dL_asked_194 : decode cL_asked 194 = .ok (.invokestatic 101, 3) := by decide +kernel
theorem dL_asked_197 : decode cL_asked 197 = .ok (.l2i, 1) := by decide +kernel
theorem dL_asked_198 : decode cL_asked 198 = .ok (.iconst 3, 1) := by decide +kernel
theorem dL_asked_199 : decode cL_asked 199 = .ok (.ishr, 1) := by decide +kernel
theorem dL_asked_200 : decode cL_asked 200 = .ok (.iconst 1, 1) := by decide +kernel
theorem dL_asked_201 : decode cL_asked 201 = .ok (.iand, 1) := by decide +kernel
theorem dL_asked_202 : decode cL_asked 202 = .ok (.iadd, 1) := by decide +kernel
theorem dL_asked_203 : decode cL_asked 203 = .ok (.i2l, 1) := by decide +kernel
theorem dL_asked_204 : decode cL_asked 204 = .ok (.goto 102, 3) := by decide +kernel
theorem dL_asked_207 : decode cL_asked 207 = .ok (.iload 8, 2) := by decide +kernel
theorem dL_asked_209 : decode cL_asked 209 = .ok (.iconst 1, 1) := by decide +kernel
theorem dL_asked_210 : decode cL_asked 210 = .ok (.if_icmp .ne 50, 3) := by decide +kernel
theorem dL_asked_213 : decode cL_asked 213 = .ok (.iload 9, 2) := by decide +kernel
theorem dL_asked_215 : decode cL_asked 215 = .ok (.ifCond .eq 20, 3) := by decide +kernel
theorem dL_asked_218 : decode cL_asked 218 = .ok (.aload_n 0, 1) := by decide +kernel
theorem dL_asked_219 : decode cL_asked 219 = .ok (.iload_n 3, 1) := by decide +kernel
theorem dL_asked_220 : decode cL_asked 220 = .ok (.iconst 4, 1) := by decide +kernel
theorem dL_asked_221 : decode cL_asked 221 = .ok (.invokestatic 101, 3) := by decide +kernel
theorem dL_asked_224 : decode cL_asked 224 = .ok (.aload_n 0, 1) := by decide +kernel
theorem dL_asked_225 : decode cL_asked 225 = .ok (.iload_n 3, 1) := by decide +kernel
theorem dL_asked_226 : decode cL_asked 226 = .ok (.bipush 6, 2) := by decide +kernel
theorem dL_asked_228 : decode cL_asked 228 = .ok (.invokestatic 101, 3) := by decide +kernel
theorem dL_asked_231 : decode cL_asked 231 = .ok (.lsub, 1) := by decide +kernel
theorem dL_asked_232 : decode cL_asked 232 = .ok (.goto 74, 3) := by decide +kernel
theorem dL_asked_235 : decode cL_asked 235 = .ok (.aload_n 0, 1) := by decide +kernel
theorem dL_asked_236 : decode cL_asked 236 = .ok (.iload_n 3, 1) := by decide +kernel
theorem dL_asked_237 : decode cL_asked 237 = .ok (.iconst 2, 1) := by decide +kernel
theorem dL_asked_238 : decode cL_asked 238 = .ok (.invokestatic 101, 3) := by decide +kernel
theorem dL_asked_241 : decode cL_asked 241 = .ok (.l2i, 1) := by decide +kernel
theorem dL_asked_242 : decode cL_asked 242 = .ok (.iconst 1, 1) := by decide +kernel
theorem dL_asked_243 : decode cL_asked 243 = .ok (.iand, 1) := by decide +kernel
theorem dL_asked_244 : decode cL_asked 244 = .ok (.aload_n 0, 1) := by decide +kernel
theorem dL_asked_245 : decode cL_asked 245 = .ok (.iload_n 3, 1) := by decide +kernel
theorem dL_asked_246 : decode cL_asked 246 = .ok (.iconst 2, 1) := by decide +kernel
theorem dL_asked_247 : decode cL_asked 247 = .ok (.invokestatic 101, 3) := by decide +kernel
theorem dL_asked_250 : decode cL_asked 250 = .ok (.l2i, 1) := by decide +kernel
theorem dL_asked_251 : decode cL_asked 251 = .ok (.iconst 2, 1) := by decide +kernel
theorem dL_asked_252 : decode cL_asked 252 = .ok (.ishr, 1) := by decide +kernel
theorem dL_asked_253 : decode cL_asked 253 = .ok (.iconst 1, 1) := by decide +kernel
theorem dL_asked_254 : decode cL_asked 254 = .ok (.iand, 1) := by decide +kernel
theorem dL_asked_255 : decode cL_asked 255 = .ok (.isub, 1) := by decide +kernel
theorem dL_asked_256 : decode cL_asked 256 = .ok (.i2l, 1) := by decide +kernel
theorem dL_asked_257 : decode cL_asked 257 = .ok (.goto 49, 3) := by decide +kernel
theorem dL_asked_260 : decode cL_asked 260 = .ok (.iload 9, 2) := by decide +kernel
theorem dL_asked_262 : decode cL_asked 262 = .ok (.ifCond .eq 20, 3) := by decide +kernel
theorem dL_asked_265 : decode cL_asked 265 = .ok (.aload_n 0, 1) := by decide +kernel
theorem dL_asked_266 : decode cL_asked 266 = .ok (.iload_n 3, 1) := by decide +kernel
theorem dL_asked_267 : decode cL_asked 267 = .ok (.iconst 5, 1) := by decide +kernel
theorem dL_asked_268 : decode cL_asked 268 = .ok (.invokestatic 101, 3) := by decide +kernel
theorem dL_asked_271 : decode cL_asked 271 = .ok (.aload_n 0, 1) := by decide +kernel
theorem dL_asked_272 : decode cL_asked 272 = .ok (.iload_n 3, 1) := by decide +kernel
theorem dL_asked_273 : decode cL_asked 273 = .ok (.bipush 7, 2) := by decide +kernel
theorem dL_asked_275 : decode cL_asked 275 = .ok (.invokestatic 101, 3) := by decide +kernel
theorem dL_asked_278 : decode cL_asked 278 = .ok (.lsub, 1) := by decide +kernel
theorem dL_asked_279 : decode cL_asked 279 = .ok (.goto 27, 3) := by decide +kernel
theorem dL_asked_282 : decode cL_asked 282 = .ok (.aload_n 0, 1) := by decide +kernel
theorem dL_asked_283 : decode cL_asked 283 = .ok (.iload_n 3, 1) := by decide +kernel
theorem dL_asked_284 : decode cL_asked 284 = .ok (.iconst 2, 1) := by decide +kernel
theorem dL_asked_285 : decode cL_asked 285 = .ok (.invokestatic 101, 3) := by decide +kernel
theorem dL_asked_288 : decode cL_asked 288 = .ok (.l2i, 1) := by decide +kernel
theorem dL_asked_289 : decode cL_asked 289 = .ok (.iconst 1, 1) := by decide +kernel
theorem dL_asked_290 : decode cL_asked 290 = .ok (.ishr, 1) := by decide +kernel
theorem dL_asked_291 : decode cL_asked 291 = .ok (.iconst 1, 1) := by decide +kernel
theorem dL_asked_292 : decode cL_asked 292 = .ok (.iand, 1) := by decide +kernel
theorem dL_asked_293 : decode cL_asked 293 = .ok (.aload_n 0, 1) := by decide +kernel
theorem dL_asked_294 : decode cL_asked 294 = .ok (.iload_n 3, 1) := by decide +kernel
theorem dL_asked_295 : decode cL_asked 295 = .ok (.iconst 2, 1) := by decide +kernel
theorem dL_asked_296 : decode cL_asked 296 = .ok (.invokestatic 101, 3) := by decide +kernel
theorem dL_asked_299 : decode cL_asked 299 = .ok (.l2i, 1) := by decide +kernel
theorem dL_asked_300 : decode cL_asked 300 = .ok (.iconst 3, 1) := by decide +kernel
theorem dL_asked_301 : decode cL_asked 301 = .ok (.ishr, 1) := by decide +kernel
theorem dL_asked_302 : decode cL_asked 302 = .ok (.iconst 1, 1) := by decide +kernel
theorem dL_asked_303 : decode cL_asked 303 = .ok (.iand, 1) := by decide +kernel
theorem dL_asked_304 : decode cL_asked 304 = .ok (.isub, 1) := by decide +kernel
theorem dL_asked_305 : decode cL_asked 305 = .ok (.i2l, 1) := by decide +kernel
theorem dL_asked_306 : decode cL_asked 306 = .ok (.lstore 13, 2) := by decide +kernel
theorem dL_asked_308 : decode cL_asked 308 = .ok (.iload 7, 2) := by decide +kernel
theorem dL_asked_310 : decode cL_asked 310 = .ok (.ifCond .eq 80, 3) := by decide +kernel
theorem dL_asked_313 : decode cL_asked 313 = .ok (.lload 10, 2) := by decide +kernel
theorem dL_asked_315 : decode cL_asked 315 = .ok (.iload 12, 2) := by decide +kernel
theorem dL_asked_317 : decode cL_asked 317 = .ok (.ifCond .eq 7, 3) := by decide +kernel
theorem dL_asked_320 : decode cL_asked 320 = .ok (.lconst 0, 1) := by decide +kernel
theorem dL_asked_321 : decode cL_asked 321 = .ok (.goto 9, 3) := by decide +kernel
theorem dL_asked_324 : decode cL_asked 324 = .ok (.ldc2_w 132, 3) := by decide +kernel
theorem dL_asked_327 : decode cL_asked 327 = .ok (.lload 13, 2) := by decide +kernel
theorem dL_asked_329 : decode cL_asked 329 = .ok (.lmul, 1) := by decide +kernel
theorem dL_asked_330 : decode cL_asked 330 = .ok (.lcmp, 1) := by decide +kernel
theorem dL_asked_331 : decode cL_asked 331 = .ok (.ifCond .ne 59, 3) := by decide +kernel
theorem dL_asked_334 : decode cL_asked 334 = .ok (.aload_n 0, 1) := by decide +kernel
theorem dL_asked_335 : decode cL_asked 335 = .ok (.iload 9, 2) := by decide +kernel
theorem dL_asked_337 : decode cL_asked 337 = .ok (.iload 8, 2) := by decide +kernel
theorem dL_asked_339 : decode cL_asked 339 = .ok (.iload_n 3, 1) := by decide +kernel
theorem dL_asked_340 : decode cL_asked 340 = .ok (.bipush 12, 2) := by decide +kernel
theorem dL_asked_342 : decode cL_asked 342 = .ok (.idiv, 1) := by decide +kernel
theorem dL_asked_343 : decode cL_asked 343 = .ok (.iload_n 3, 1) := by decide +kernel
theorem dL_asked_344 : decode cL_asked 344 = .ok (.bipush 12, 2) := by decide +kernel
theorem dL_asked_346 : decode cL_asked 346 = .ok (.irem, 1) := by decide +kernel
theorem dL_asked_347 : decode cL_asked 347 = .ok (.iconst 1, 1) := by decide +kernel
theorem dL_asked_348 : decode cL_asked 348 = .ok (.iconst 1, 1) := by decide +kernel
theorem dL_asked_349 : decode cL_asked 349 = .ok (.invokestatic 134, 3) := by decide +kernel
theorem dL_asked_352 : decode cL_asked 352 = .ok (.lconst 0, 1) := by decide +kernel
theorem dL_asked_353 : decode cL_asked 353 = .ok (.lcmp, 1) := by decide +kernel
theorem dL_asked_354 : decode cL_asked 354 = .ok (.ifCond .ne 36, 3) := by decide +kernel
theorem dL_asked_357 : decode cL_asked 357 = .ok (.aload_n 0, 1) := by decide +kernel
theorem dL_asked_358 : decode cL_asked 358 = .ok (.iload 9, 2) := by decide +kernel
theorem dL_asked_360 : decode cL_asked 360 = .ok (.iload 8, 2) := by decide +kernel
theorem dL_asked_362 : decode cL_asked 362 = .ok (.iconst 0, 1) := by decide +kernel
theorem dL_asked_363 : decode cL_asked 363 = .ok (.iload_n 3, 1) := by decide +kernel
theorem dL_asked_364 : decode cL_asked 364 = .ok (.bipush 12, 2) := by decide +kernel
theorem dL_asked_366 : decode cL_asked 366 = .ok (.irem, 1) := by decide +kernel
theorem dL_asked_367 : decode cL_asked 367 = .ok (.bipush 8, 2) := by decide +kernel
theorem dL_asked_369 : decode cL_asked 369 = .ok (.iconst 1, 1) := by decide +kernel
theorem dL_asked_370 : decode cL_asked 370 = .ok (.iload_n 2, 1) := by decide +kernel
theorem dL_asked_371 : decode cL_asked 371 = .ok (.bipush 8, 2) := by decide +kernel
theorem dL_asked_373 : decode cL_asked 373 = .ok (.idiv, 1) := by decide +kernel
theorem dL_asked_374 : decode cL_asked 374 = .ok (.bipush 12, 2) := by decide +kernel
theorem dL_asked_376 : decode cL_asked 376 = .ok (.irem, 1) := by decide +kernel
theorem dL_asked_377 : decode cL_asked 377 = .ok (.iadd, 1) := by decide +kernel
theorem dL_asked_378 : decode cL_asked 378 = .ok (.invokestatic 134, 3) := by decide +kernel
theorem dL_asked_381 : decode cL_asked 381 = .ok (.lconst 0, 1) := by decide +kernel
theorem dL_asked_382 : decode cL_asked 382 = .ok (.lcmp, 1) := by decide +kernel
theorem dL_asked_383 : decode cL_asked 383 = .ok (.ifCond .lt 7, 3) := by decide +kernel
theorem dL_asked_386 : decode cL_asked 386 = .ok (.iconst 1, 1) := by decide +kernel
theorem dL_asked_387 : decode cL_asked 387 = .ok (.goto 4, 3) := by decide +kernel
theorem dL_asked_390 : decode cL_asked 390 = .ok (.iconst 0, 1) := by decide +kernel
theorem dL_asked_391 : decode cL_asked 391 = .ok (.istore 7, 2) := by decide +kernel
theorem dL_asked_393 : decode cL_asked 393 = .ok (.iload 7, 2) := by decide +kernel
theorem dL_asked_395 : decode cL_asked 395 = .ok (.ireturn, 1) := by decide +kernel
theorem dL_betterHolds_0 : decode cL_betterHolds 0 = .ok (.aload_n 0, 1) := by decide +kernel
theorem dL_betterHolds_1 : decode cL_betterHolds 1 = .ok (.iload_n 1, 1) := by decide +kernel
theorem dL_betterHolds_2 : decode cL_betterHolds 2 = .ok (.iconst 1, 1) := by decide +kernel
theorem dL_betterHolds_3 : decode cL_betterHolds 3 = .ok (.invokestatic 136, 3) := by decide +kernel
theorem dL_betterHolds_6 : decode cL_betterHolds 6 = .ok (.lstore_n 2, 1) := by decide +kernel
theorem dL_betterHolds_7 : decode cL_betterHolds 7 = .ok (.lload_n 2, 1) := by decide +kernel
theorem dL_betterHolds_8 : decode cL_betterHolds 8 = .ok (.ldc2_w 117, 3) := by decide +kernel
theorem dL_betterHolds_11 : decode cL_betterHolds 11 = .ok (.lcmp, 1) := by decide +kernel
theorem dL_betterHolds_12 : decode cL_betterHolds 12 = .ok (.ifCond .eq 30, 3) := by decide +kernel
theorem dL_betterHolds_15 : decode cL_betterHolds 15 = .ok (.lload_n 2, 1) := by decide +kernel
theorem dL_betterHolds_16 : decode cL_betterHolds 16 = .ok (.lconst 0, 1) := by decide +kernel
theorem dL_betterHolds_17 : decode cL_betterHolds 17 = .ok (.lcmp, 1) := by decide +kernel
theorem dL_betterHolds_18 : decode cL_betterHolds 18 = .ok (.ifCond .lt 28, 3) := by decide +kernel
theorem dL_betterHolds_21 : decode cL_betterHolds 21 = .ok (.lload_n 2, 1) := by decide +kernel
theorem dL_betterHolds_22 : decode cL_betterHolds 22 = .ok (.ldc2_w 138, 3) := by decide +kernel
theorem dL_betterHolds_25 : decode cL_betterHolds 25 = .ok (.lcmp, 1) := by decide +kernel
theorem dL_betterHolds_26 : decode cL_betterHolds 26 = .ok (.ifCond .ge 20, 3) := by decide +kernel
theorem dL_betterHolds_29 : decode cL_betterHolds 29 = .ok (.aload_n 0, 1) := by decide +kernel
theorem dL_betterHolds_30 : decode cL_betterHolds 30 = .ok (.lload_n 2, 1) := by decide +kernel
theorem dL_betterHolds_31 : decode cL_betterHolds 31 = .ok (.l2i, 1) := by decide +kernel
theorem dL_betterHolds_32 : decode cL_betterHolds 32 = .ok (.iconst 1, 1) := by decide +kernel
theorem dL_betterHolds_33 : decode cL_betterHolds 33 = .ok (.invokestatic 101, 3) := by decide +kernel
theorem dL_betterHolds_36 : decode cL_betterHolds 36 = .ok (.iload_n 1, 1) := by decide +kernel
theorem dL_betterHolds_37 : decode cL_betterHolds 37 = .ok (.i2l, 1) := by decide +kernel
theorem dL_betterHolds_38 : decode cL_betterHolds 38 = .ok (.lcmp, 1) := by decide +kernel
theorem dL_betterHolds_39 : decode cL_betterHolds 39 = .ok (.ifCond .ne 7, 3) := by decide +kernel
theorem dL_betterHolds_42 : decode cL_betterHolds 42 = .ok (.iconst 1, 1) := by decide +kernel
theorem dL_betterHolds_43 : decode cL_betterHolds 43 = .ok (.goto 4, 3) := by decide +kernel
theorem dL_betterHolds_46 : decode cL_betterHolds 46 = .ok (.iconst 0, 1) := by decide +kernel
theorem dL_betterHolds_47 : decode cL_betterHolds 47 = .ok (.ireturn, 1) := by decide +kernel
theorem dL_refuses_0 : decode cL_refuses 0 = .ok (.aload_n 0, 1) := by decide +kernel
theorem dL_refuses_1 : decode cL_refuses 1 = .ok (.invokestatic 140, 3) := by decide +kernel
theorem dL_refuses_4 : decode cL_refuses 4 = .ok (.lstore_n 1, 1) := by decide +kernel
theorem dL_refuses_5 : decode cL_refuses 5 = .ok (.aload_n 0, 1) := by decide +kernel
theorem dL_refuses_6 : decode cL_refuses 6 = .ok (.iconst 1, 1) := by decide +kernel
theorem dL_refuses_7 : decode cL_refuses 7 = .ok (.invokestatic 114, 3) := by decide +kernel
theorem dL_refuses_10 : decode cL_refuses 10 = .ok (.lstore_n 3, 1) := by decide +kernel
theorem dL_refuses_11 : decode cL_refuses 11 = .ok (.aload_n 0, 1) := by decide +kernel
theorem dL_refuses_12 : decode cL_refuses 12 = .ok (.bipush 96, 2) := by decide +kernel
theorem dL_refuses_14 : decode cL_refuses 14 = .ok (.iconst 0, 1) := by decide +kernel
theorem dL_refuses_15 : decode cL_refuses 15 = .ok (.invokestatic 144, 3) := by decide +kernel
theorem dL_refuses_18 : decode cL_refuses 18 = .ok (.ldc2_w 17, 3) := by decide +kernel
theorem dL_refuses_21 : decode cL_refuses 21 = .ok (.lcmp, 1) := by decide +kernel
theorem dL_refuses_22 : decode cL_refuses 22 = .ok (.ifCond .ne 270, 3) := by decide +kernel
theorem dL_refuses_25 : decode cL_refuses 25 = .ok (.aload_n 0, 1) := by decide +kernel
theorem dL_refuses_26 : decode cL_refuses 26 = .ok (.iconst 0, 1) := by decide +kernel
theorem dL_refuses_27 : decode cL_refuses 27 = .ok (.iconst 4, 1) := by decide +kernel
theorem dL_refuses_28 : decode cL_refuses 28 = .ok (.invokestatic 144, 3) := by decide +kernel
theorem dL_refuses_31 : decode cL_refuses 31 = .ok (.ldc2_w 17, 3) := by decide +kernel
theorem dL_refuses_34 : decode cL_refuses 34 = .ok (.lcmp, 1) := by decide +kernel
theorem dL_refuses_35 : decode cL_refuses 35 = .ok (.ifCond .ne 257, 3) := by decide +kernel
theorem dL_refuses_38 : decode cL_refuses 38 = .ok (.aload_n 0, 1) := by decide +kernel
theorem dL_refuses_39 : decode cL_refuses 39 = .ok (.iconst (-1), 1) := by decide +kernel
theorem dL_refuses_40 : decode cL_refuses 40 = .ok (.invokestatic 146, 3) := by decide +kernel
theorem dL_refuses_43 : decode cL_refuses 43 = .ok (.ldc2_w 17, 3) := by decide +kernel
theorem dL_refuses_46 : decode cL_refuses 46 = .ok (.lcmp, 1) := by decide +kernel
theorem dL_refuses_47 : decode cL_refuses 47 = .ok (.ifCond .ne 245, 3) := by decide +kernel
theorem dL_refuses_50 : decode cL_refuses 50 = .ok (.aload_n 0, 1) := by decide +kernel
theorem dL_refuses_51 : decode cL_refuses 51 = .ok (.bipush 96, 2) := by decide +kernel
theorem dL_refuses_53 : decode cL_refuses 53 = .ok (.iconst 2, 1) := by decide +kernel
theorem dL_refuses_54 : decode cL_refuses 54 = .ok (.invokestatic 148, 3) := by decide +kernel
theorem dL_refuses_57 : decode cL_refuses 57 = .ok (.ldc2_w 17, 3) := by decide +kernel
theorem dL_refuses_60 : decode cL_refuses 60 = .ok (.lcmp, 1) := by decide +kernel
theorem dL_refuses_61 : decode cL_refuses 61 = .ok (.ifCond .ne 231, 3) := by decide +kernel
theorem dL_refuses_64 : decode cL_refuses 64 = .ok (.aload_n 0, 1) := by decide +kernel
theorem dL_refuses_65 : decode cL_refuses 65 = .ok (.iconst 0, 1) := by decide +kernel
theorem dL_refuses_66 : decode cL_refuses 66 = .ok (.iconst 0, 1) := by decide +kernel
theorem dL_refuses_67 : decode cL_refuses 67 = .ok (.invokestatic 148, 3) := by decide +kernel
theorem dL_refuses_70 : decode cL_refuses 70 = .ok (.ldc2_w 32, 3) := by decide +kernel
theorem dL_refuses_73 : decode cL_refuses 73 = .ok (.lcmp, 1) := by decide +kernel
theorem dL_refuses_74 : decode cL_refuses 74 = .ok (.ifCond .ne 218, 3) := by decide +kernel
theorem dL_refuses_77 : decode cL_refuses 77 = .ok (.aload_n 0, 1) := by decide +kernel
theorem dL_refuses_78 : decode cL_refuses 78 = .ok (.bipush 96, 2) := by decide +kernel
theorem dL_refuses_80 : decode cL_refuses 80 = .ok (.iconst 0, 1) := by decide +kernel
theorem dL_refuses_81 : decode cL_refuses 81 = .ok (.invokestatic 150, 3) := by decide +kernel
theorem dL_refuses_84 : decode cL_refuses 84 = .ok (.ldc2_w 17, 3) := by decide +kernel
theorem dL_refuses_87 : decode cL_refuses 87 = .ok (.lcmp, 1) := by decide +kernel
theorem dL_refuses_88 : decode cL_refuses 88 = .ok (.ifCond .ne 204, 3) := by decide +kernel
theorem dL_refuses_91 : decode cL_refuses 91 = .ok (.aload_n 0, 1) := by decide +kernel
theorem dL_refuses_92 : decode cL_refuses 92 = .ok (.iconst 0, 1) := by decide +kernel
theorem dL_refuses_93 : decode cL_refuses 93 = .ok (.iconst (-1), 1) := by decide +kernel
theorem dL_refuses_94 : decode cL_refuses 94 = .ok (.invokestatic 150, 3) := by decide +kernel
theorem dL_refuses_97 : decode cL_refuses 97 = .ok (.ldc2_w 32, 3) := by decide +kernel
theorem dL_refuses_100 : decode cL_refuses 100 = .ok (.lcmp, 1) := by decide +kernel
theorem dL_refuses_101 : decode cL_refuses 101 = .ok (.ifCond .ne 191, 3) := by decide +kernel
theorem dL_refuses_104 : decode cL_refuses 104 = .ok (.aload_n 0, 1) := by decide +kernel
theorem dL_refuses_105 : decode cL_refuses 105 = .ok (.bipush 96, 2) := by decide +kernel
theorem dL_refuses_107 : decode cL_refuses 107 = .ok (.invokestatic 152, 3) := by decide +kernel
theorem dL_refuses_110 : decode cL_refuses 110 = .ok (.ldc2_w 17, 3) := by decide +kernel
theorem dL_refuses_113 : decode cL_refuses 113 = .ok (.lcmp, 1) := by decide +kernel
theorem dL_refuses_114 : decode cL_refuses 114 = .ok (.ifCond .ne 178, 3) := by decide +kernel
theorem dL_refuses_117 : decode cL_refuses 117 = .ok (.aload_n 0, 1) := by decide +kernel
theorem dL_refuses_118 : decode cL_refuses 118 = .ok (.iconst (-1), 1) := by decide +kernel
theorem dL_refuses_119 : decode cL_refuses 119 = .ok (.invokestatic 154, 3) := by decide +kernel
theorem dL_refuses_122 : decode cL_refuses 122 = .ok (.ldc2_w 17, 3) := by decide +kernel
theorem dL_refuses_125 : decode cL_refuses 125 = .ok (.lcmp, 1) := by decide +kernel
theorem dL_refuses_126 : decode cL_refuses 126 = .ok (.ifCond .ne 166, 3) := by decide +kernel
theorem dL_refuses_129 : decode cL_refuses 129 = .ok (.aload_n 0, 1) := by decide +kernel
theorem dL_refuses_130 : decode cL_refuses 130 = .ok (.iconst (-1), 1) := by decide +kernel
theorem dL_refuses_131 : decode cL_refuses 131 = .ok (.iconst 0, 1) := by decide +kernel
theorem dL_refuses_132 : decode cL_refuses 132 = .ok (.invokestatic 156, 3) := by decide +kernel
theorem dL_refuses_135 : decode cL_refuses 135 = .ok (.ldc2_w 17, 3) := by decide +kernel
theorem dL_refuses_138 : decode cL_refuses 138 = .ok (.lcmp, 1) := by decide +kernel
theorem dL_refuses_139 : decode cL_refuses 139 = .ok (.ifCond .ne 153, 3) := by decide +kernel
theorem dL_refuses_142 : decode cL_refuses 142 = .ok (.aload_n 0, 1) := by decide +kernel
theorem dL_refuses_143 : decode cL_refuses 143 = .ok (.iconst 0, 1) := by decide +kernel
theorem dL_refuses_144 : decode cL_refuses 144 = .ok (.bipush 6, 2) := by decide +kernel
theorem dL_refuses_146 : decode cL_refuses 146 = .ok (.invokestatic 156, 3) := by decide +kernel
theorem dL_refuses_149 : decode cL_refuses 149 = .ok (.ldc2_w 32, 3) := by decide +kernel
theorem dL_refuses_152 : decode cL_refuses 152 = .ok (.lcmp, 1) := by decide +kernel
theorem dL_refuses_153 : decode cL_refuses 153 = .ok (.ifCond .ne 139, 3) := by decide +kernel
theorem dL_refuses_156 : decode cL_refuses 156 = .ok (.aload_n 0, 1) := by decide +kernel
theorem dL_refuses_157 : decode cL_refuses 157 = .ok (.bipush 96, 2) := by decide +kernel
theorem dL_refuses_159 : decode cL_refuses 159 = .ok (.iconst 0, 1) := by decide +kernel
theorem dL_refuses_160 : decode cL_refuses 160 = .ok (.iconst 1, 1) := by decide +kernel
theorem dL_refuses_161 : decode cL_refuses 161 = .ok (.invokestatic 158, 3) := by decide +kernel
theorem dL_refuses_164 : decode cL_refuses 164 = .ok (.ldc2_w 17, 3) := by decide +kernel
theorem dL_refuses_167 : decode cL_refuses 167 = .ok (.lcmp, 1) := by decide +kernel
theorem dL_refuses_168 : decode cL_refuses 168 = .ok (.ifCond .ne 124, 3) := by decide +kernel
theorem dL_refuses_171 : decode cL_refuses 171 = .ok (.aload_n 0, 1) := by decide +kernel
theorem dL_refuses_172 : decode cL_refuses 172 = .ok (.iconst 0, 1) := by decide +kernel
theorem dL_refuses_173 : decode cL_refuses 173 = .ok (.iconst 0, 1) := by decide +kernel
theorem dL_refuses_174 : decode cL_refuses 174 = .ok (.iconst 0, 1) := by decide +kernel
theorem dL_refuses_175 : decode cL_refuses 175 = .ok (.invokestatic 158, 3) := by decide +kernel
theorem dL_refuses_178 : decode cL_refuses 178 = .ok (.ldc2_w 32, 3) := by decide +kernel
theorem dL_refuses_181 : decode cL_refuses 181 = .ok (.lcmp, 1) := by decide +kernel
theorem dL_refuses_182 : decode cL_refuses 182 = .ok (.ifCond .ne 110, 3) := by decide +kernel
theorem dL_refuses_185 : decode cL_refuses 185 = .ok (.aload_n 0, 1) := by decide +kernel
theorem dL_refuses_186 : decode cL_refuses 186 = .ok (.iconst 0, 1) := by decide +kernel
theorem dL_refuses_187 : decode cL_refuses 187 = .ok (.invokestatic 161, 3) := by decide +kernel
theorem dL_refuses_190 : decode cL_refuses 190 = .ok (.ldc2_w 32, 3) := by decide +kernel
theorem dL_refuses_193 : decode cL_refuses 193 = .ok (.lcmp, 1) := by decide +kernel
theorem dL_refuses_194 : decode cL_refuses 194 = .ok (.ifCond .ne 98, 3) := by decide +kernel
theorem dL_refuses_197 : decode cL_refuses 197 = .ok (.aload_n 0, 1) := by decide +kernel
theorem dL_refuses_198 : decode cL_refuses 198 = .ok (.iconst 0, 1) := by decide +kernel
theorem dL_refuses_199 : decode cL_refuses 199 = .ok (.invokestatic 163, 3) := by decide +kernel
theorem dL_refuses_202 : decode cL_refuses 202 = .ok (.ldc2_w 32, 3) := by decide +kernel
theorem dL_refuses_205 : decode cL_refuses 205 = .ok (.lcmp, 1) := by decide +kernel
theorem dL_refuses_206 : decode cL_refuses 206 = .ok (.ifCond .ne 86, 3) := by decide +kernel
theorem dL_refuses_209 : decode cL_refuses 209 = .ok (.aload_n 0, 1) := by decide +kernel
theorem dL_refuses_210 : decode cL_refuses 210 = .ok (.iconst 0, 1) := by decide +kernel
theorem dL_refuses_211 : decode cL_refuses 211 = .ok (.invokestatic 165, 3) := by decide +kernel
theorem dL_refuses_214 : decode cL_refuses 214 = .ok (.ldc2_w 32, 3) := by decide +kernel
theorem dL_refuses_217 : decode cL_refuses 217 = .ok (.lcmp, 1) := by decide +kernel
theorem dL_refuses_218 : decode cL_refuses 218 = .ok (.ifCond .ne 74, 3) := by decide +kernel
theorem dL_refuses_221 : decode cL_refuses 221 = .ok (.aload_n 0, 1) := by decide +kernel
theorem dL_refuses_222 : decode cL_refuses 222 = .ok (.iconst (-1), 1) := by decide +kernel
theorem dL_refuses_223 : decode cL_refuses 223 = .ok (.iconst 0, 1) := by decide +kernel
theorem dL_refuses_224 : decode cL_refuses 224 = .ok (.invokestatic 101, 3) := by decide +kernel
theorem dL_refuses_227 : decode cL_refuses 227 = .ok (.ldc2_w 17, 3) := by decide +kernel
theorem dL_refuses_230 : decode cL_refuses 230 = .ok (.lcmp, 1) := by decide +kernel
theorem dL_refuses_231 : decode cL_refuses 231 = .ok (.ifCond .ne 61, 3) := by decide +kernel
theorem dL_refuses_234 : decode cL_refuses 234 = .ok (.aload_n 0, 1) := by decide +kernel
theorem dL_refuses_235 : decode cL_refuses 235 = .ok (.iconst 0, 1) := by decide +kernel
theorem dL_refuses_236 : decode cL_refuses 236 = .ok (.bipush 8, 2) := by decide +kernel
theorem dL_refuses_238 : decode cL_refuses 238 = .ok (.invokestatic 101, 3) := by decide +kernel
theorem dL_refuses_241 : decode cL_refuses 241 = .ok (.ldc2_w 32, 3) := by decide +kernel
theorem dL_refuses_244 : decode cL_refuses 244 = .ok (.lcmp, 1) := by decide +kernel
theorem dL_refuses_245 : decode cL_refuses 245 = .ok (.ifCond .ne 47, 3) := by decide +kernel
theorem dL_refuses_248 : decode cL_refuses 248 = .ok (.aload_n 0, 1) := by decide +kernel
theorem dL_refuses_249 : decode cL_refuses 249 = .ok (.iconst 4, 1) := by decide +kernel
theorem dL_refuses_250 : decode cL_refuses 250 = .ok (.iconst 0, 1) := by decide +kernel
theorem dL_refuses_251 : decode cL_refuses 251 = .ok (.invokestatic 110, 3) := by decide +kernel
theorem dL_refuses_254 : decode cL_refuses 254 = .ok (.ldc2_w 17, 3) := by decide +kernel
theorem dL_refuses_257 : decode cL_refuses 257 = .ok (.lcmp, 1) := by decide +kernel
theorem dL_refuses_258 : decode cL_refuses 258 = .ok (.ifCond .ne 34, 3) := by decide +kernel
theorem dL_refuses_261 : decode cL_refuses 261 = .ok (.aload_n 0, 1) := by decide +kernel
theorem dL_refuses_262 : decode cL_refuses 262 = .ok (.iconst 0, 1) := by decide +kernel
theorem dL_refuses_263 : decode cL_refuses 263 = .ok (.bipush 6, 2) := by decide +kernel
theorem dL_refuses_265 : decode cL_refuses 265 = .ok (.invokestatic 110, 3) := by decide +kernel
theorem dL_refuses_268 : decode cL_refuses 268 = .ok (.ldc2_w 32, 3) := by decide +kernel
theorem dL_refuses_271 : decode cL_refuses 271 = .ok (.lcmp, 1) := by decide +kernel
theorem dL_refuses_272 : decode cL_refuses 272 = .ok (.ifCond .ne 20, 3) := by decide +kernel
theorem dL_refuses_275 : decode cL_refuses 275 = .ok (.aload_n 0, 1) := by decide +kernel
theorem dL_refuses_276 : decode cL_refuses 276 = .ok (.bipush 8, 2) := by decide +kernel
theorem dL_refuses_278 : decode cL_refuses 278 = .ok (.invokestatic 114, 3) := by decide +kernel
theorem dL_refuses_281 : decode cL_refuses 281 = .ok (.ldc2_w 32, 3) := by decide +kernel
theorem dL_refuses_284 : decode cL_refuses 284 = .ok (.lcmp, 1) := by decide +kernel
theorem dL_refuses_285 : decode cL_refuses 285 = .ok (.ifCond .ne 7, 3) := by decide +kernel
theorem dL_refuses_288 : decode cL_refuses 288 = .ok (.iconst 1, 1) := by decide +kernel
theorem dL_refuses_289 : decode cL_refuses 289 = .ok (.goto 4, 3) := by decide +kernel
theorem dL_refuses_292 : decode cL_refuses 292 = .ok (.iconst 0, 1) := by decide +kernel
theorem dL_refuses_293 : decode cL_refuses 293 = .ok (.istore 5, 2) := by decide +kernel
theorem dL_refuses_295 : decode cL_refuses 295 = .ok (.iload 5, 2) := by decide +kernel
theorem dL_refuses_297 : decode cL_refuses 297 = .ok (.ifCond .eq 152, 3) := by decide +kernel
theorem dL_refuses_300 : decode cL_refuses 300 = .ok (.aload_n 0, 1) := by decide +kernel
theorem dL_refuses_301 : decode cL_refuses 301 = .ok (.iconst 1, 1) := by decide +kernel
theorem dL_refuses_302 : decode cL_refuses 302 = .ok (.iconst 3, 1) := by decide +kernel
theorem dL_refuses_303 : decode cL_refuses 303 = .ok (.iconst 0, 1) := by decide +kernel
theorem dL_refuses_304 : decode cL_refuses 304 = .ok (.iconst 0, 1) := by decide +kernel
theorem dL_refuses_305 : decode cL_refuses 305 = .ok (.iconst 1, 1) := by decide +kernel
theorem dL_refuses_306 : decode cL_refuses 306 = .ok (.iconst 1, 1) := by decide +kernel
theorem dL_refuses_307 : decode cL_refuses 307 = .ok (.invokestatic 129, 3) := by decide +kernel
theorem dL_refuses_310 : decode cL_refuses 310 = .ok (.ldc2_w 32, 3) := by decide +kernel
theorem dL_refuses_313 : decode cL_refuses 313 = .ok (.lcmp, 1) := by decide +kernel
theorem dL_refuses_314 : decode cL_refuses 314 = .ok (.ifCond .ne 135, 3) := by decide +kernel
theorem dL_refuses_317 : decode cL_refuses 317 = .ok (.aload_n 0, 1) := by decide +kernel
theorem dL_refuses_318 : decode cL_refuses 318 = .ok (.iconst 1, 1) := by decide +kernel
theorem dL_refuses_319 : decode cL_refuses 319 = .ok (.iconst 0, 1) := by decide +kernel
theorem dL_refuses_320 : decode cL_refuses 320 = .ok (.bipush 7, 2) := by decide +kernel
theorem dL_refuses_322 : decode cL_refuses 322 = .ok (.iconst 0, 1) := by decide +kernel
theorem dL_refuses_323 : decode cL_refuses 323 = .ok (.iconst 2, 1) := by decide +kernel
theorem dL_refuses_324 : decode cL_refuses 324 = .ok (.iconst 1, 1) := by decide +kernel
theorem dL_refuses_325 : decode cL_refuses 325 = .ok (.invokestatic 134, 3) := by decide +kernel
theorem dL_refuses_328 : decode cL_refuses 328 = .ok (.ldc2_w 32, 3) := by decide +kernel
theorem dL_refuses_331 : decode cL_refuses 331 = .ok (.lcmp, 1) := by decide +kernel
theorem dL_refuses_332 : decode cL_refuses 332 = .ok (.ifCond .ne 117, 3) := by decide +kernel
theorem dL_refuses_335 : decode cL_refuses 335 = .ok (.aload_n 0, 1) := by decide +kernel
theorem dL_refuses_336 : decode cL_refuses 336 = .ok (.iconst 0, 1) := by decide +kernel
theorem dL_refuses_337 : decode cL_refuses 337 = .ok (.bipush 6, 2) := by decide +kernel
theorem dL_refuses_339 : decode cL_refuses 339 = .ok (.invokestatic 125, 3) := by decide +kernel
theorem dL_refuses_342 : decode cL_refuses 342 = .ok (.ldc2_w 32, 3) := by decide +kernel
theorem dL_refuses_345 : decode cL_refuses 345 = .ok (.lcmp, 1) := by decide +kernel
theorem dL_refuses_346 : decode cL_refuses 346 = .ok (.ifCond .ne 103, 3) := by decide +kernel
theorem dL_refuses_349 : decode cL_refuses 349 = .ok (.aload_n 0, 1) := by decide +kernel
theorem dL_refuses_350 : decode cL_refuses 350 = .ok (.bipush 96, 2) := by decide +kernel
theorem dL_refuses_352 : decode cL_refuses 352 = .ok (.iconst 0, 1) := by decide +kernel
theorem dL_refuses_353 : decode cL_refuses 353 = .ok (.invokestatic 127, 3) := by decide +kernel
theorem dL_refuses_356 : decode cL_refuses 356 = .ok (.ldc2_w 17, 3) := by decide +kernel
theorem dL_refuses_359 : decode cL_refuses 359 = .ok (.lcmp, 1) := by decide +kernel
theorem dL_refuses_360 : decode cL_refuses 360 = .ok (.ifCond .ne 89, 3) := by decide +kernel
theorem dL_refuses_363 : decode cL_refuses 363 = .ok (.aload_n 0, 1) := by decide +kernel
theorem dL_refuses_364 : decode cL_refuses 364 = .ok (.iconst 2, 1) := by decide +kernel
theorem dL_refuses_365 : decode cL_refuses 365 = .ok (.invokestatic 123, 3) := by decide +kernel
theorem dL_refuses_368 : decode cL_refuses 368 = .ok (.ldc2_w 32, 3) := by decide +kernel
theorem dL_refuses_371 : decode cL_refuses 371 = .ok (.lcmp, 1) := by decide +kernel
theorem dL_refuses_372 : decode cL_refuses 372 = .ok (.ifCond .ne 77, 3) := by decide +kernel
theorem dL_refuses_375 : decode cL_refuses 375 = .ok (.aload_n 0, 1) := by decide +kernel
theorem dL_refuses_376 : decode cL_refuses 376 = .ok (.iconst 4, 1) := by decide +kernel
theorem dL_refuses_377 : decode cL_refuses 377 = .ok (.iconst 0, 1) := by decide +kernel
theorem dL_refuses_378 : decode cL_refuses 378 = .ok (.invokestatic 167, 3) := by decide +kernel
theorem dL_refuses_381 : decode cL_refuses 381 = .ok (.ldc2_w 17, 3) := by decide +kernel
theorem dL_refuses_384 : decode cL_refuses 384 = .ok (.lcmp, 1) := by decide +kernel
theorem dL_refuses_385 : decode cL_refuses 385 = .ok (.ifCond .ne 64, 3) := by decide +kernel
theorem dL_refuses_388 : decode cL_refuses 388 = .ok (.aload_n 0, 1) := by decide +kernel
theorem dL_refuses_389 : decode cL_refuses 389 = .ok (.iconst 4, 1) := by decide +kernel
theorem dL_refuses_390 : decode cL_refuses 390 = .ok (.invokestatic 169, 3) := by decide +kernel
theorem dL_refuses_393 : decode cL_refuses 393 = .ok (.ldc2_w 17, 3) := by decide +kernel
theorem dL_refuses_396 : decode cL_refuses 396 = .ok (.lcmp, 1) := by decide +kernel
theorem dL_refuses_397 : decode cL_refuses 397 = .ok (.ifCond .ne 52, 3) := by decide +kernel
theorem dL_refuses_400 : decode cL_refuses 400 = .ok (.aload_n 0, 1) := by decide +kernel
theorem dL_refuses_401 : decode cL_refuses 401 = .ok (.iconst 4, 1) := by decide +kernel
theorem dL_refuses_402 : decode cL_refuses 402 = .ok (.iconst 1, 1) := by decide +kernel
theorem dL_refuses_403 : decode cL_refuses 403 = .ok (.invokestatic 136, 3) := by decide +kernel
theorem dL_refuses_406 : decode cL_refuses 406 = .ok (.ldc2_w 17, 3) := by decide +kernel
theorem dL_refuses_409 : decode cL_refuses 409 = .ok (.lcmp, 1) := by decide +kernel
theorem dL_refuses_410 : decode cL_refuses 410 = .ok (.ifCond .ne 39, 3) := by decide +kernel
theorem dL_refuses_413 : decode cL_refuses 413 = .ok (.aload_n 0, 1) := by decide +kernel
theorem dL_refuses_414 : decode cL_refuses 414 = .ok (.iconst 0, 1) := by decide +kernel
theorem dL_refuses_415 : decode cL_refuses 415 = .ok (.iconst 0, 1) := by decide +kernel
theorem dL_refuses_416 : decode cL_refuses 416 = .ok (.invokestatic 136, 3) := by decide +kernel
theorem dL_refuses_419 : decode cL_refuses 419 = .ok (.ldc2_w 32, 3) := by decide +kernel
theorem dL_refuses_422 : decode cL_refuses 422 = .ok (.lcmp, 1) := by decide +kernel
theorem dL_refuses_423 : decode cL_refuses 423 = .ok (.ifCond .ne 26, 3) := by decide +kernel
theorem dL_refuses_426 : decode cL_refuses 426 = .ok (.aload_n 0, 1) := by decide +kernel
theorem dL_refuses_427 : decode cL_refuses 427 = .ok (.invokestatic 140, 3) := by decide +kernel
theorem dL_refuses_430 : decode cL_refuses 430 = .ok (.lload_n 1, 1) := by decide +kernel
theorem dL_refuses_431 : decode cL_refuses 431 = .ok (.lcmp, 1) := by decide +kernel
theorem dL_refuses_432 : decode cL_refuses 432 = .ok (.ifCond .ne 17, 3) := by decide +kernel
theorem dL_refuses_435 : decode cL_refuses 435 = .ok (.aload_n 0, 1) := by decide +kernel
theorem dL_refuses_436 : decode cL_refuses 436 = .ok (.iconst 1, 1) := by decide +kernel
theorem dL_refuses_437 : decode cL_refuses 437 = .ok (.invokestatic 114, 3) := by decide +kernel
theorem dL_refuses_440 : decode cL_refuses 440 = .ok (.lload_n 3, 1) := by decide +kernel
theorem dL_refuses_441 : decode cL_refuses 441 = .ok (.lcmp, 1) := by decide +kernel
theorem dL_refuses_442 : decode cL_refuses 442 = .ok (.ifCond .ne 7, 3) := by decide +kernel
theorem dL_refuses_445 : decode cL_refuses 445 = .ok (.iconst 1, 1) := by decide +kernel
theorem dL_refuses_446 : decode cL_refuses 446 = .ok (.goto 4, 3) := by decide +kernel
theorem dL_refuses_449 : decode cL_refuses 449 = .ok (.iconst 0, 1) := by decide +kernel
theorem dL_refuses_450 : decode cL_refuses 450 = .ok (.ireturn, 1) := by decide +kernel
theorem dL_law_0 : decode cL_law 0 = .ok (.new 10, 3) := by decide +kernel
theorem dL_law_3 : decode cL_law 3 = .ok (.dup, 1) := by decide +kernel
theorem dL_law_4 : decode cL_law 4 = .ok (.invokespecial 171, 3) := by decide +kernel
theorem dL_law_7 : decode cL_law 7 = .ok (.astore_n 1, 1) := by decide +kernel
theorem dL_law_8 : decode cL_law 8 = .ok (.iconst 1, 1) := by decide +kernel
theorem dL_law_9 : decode cL_law 9 = .ok (.istore_n 2, 1) := by decide +kernel
theorem dL_law_10 : decode cL_law 10 = .ok (.iconst 0, 1) := by decide +kernel
theorem dL_law_11 : decode cL_law 11 = .ok (.istore_n 3, 1) := by decide +kernel
theorem dL_law_12 : decode cL_law 12 = .ok (.lconst 0, 1) := by decide +kernel
theorem dL_law_13 : decode cL_law 13 = .ok (.lstore 4, 2) := by decide +kernel
theorem dL_law_15 : decode cL_law 15 = .ok (.iconst 0, 1) := by decide +kernel
theorem dL_law_16 : decode cL_law 16 = .ok (.istore 6, 2) := by decide +kernel
theorem dL_law_18 : decode cL_law 18 = .ok (.iload 6, 2) := by decide +kernel
theorem dL_law_20 : decode cL_law 20 = .ok (.bipush 48, 2) := by decide +kernel
theorem dL_law_22 : decode cL_law 22 = .ok (.if_icmp .ge 1257, 3) := by decide +kernel
theorem dL_law_25 : decode cL_law 25 = .ok (.iload_n 2, 1) := by decide +kernel
theorem dL_law_26 : decode cL_law 26 = .ok (.ifCond .eq 1253, 3) := by decide +kernel
theorem dL_law_29 : decode cL_law 29 = .ok (.aload_n 0, 1) := by decide +kernel
theorem dL_law_30 : decode cL_law 30 = .ok (.iconst 2, 1) := by decide +kernel
theorem dL_law_31 : decode cL_law 31 = .ok (.iload 6, 2) := by decide +kernel
theorem dL_law_33 : decode cL_law 33 = .ok (.imul, 1) := by decide +kernel
theorem dL_law_34 : decode cL_law 34 = .ok (.invokestatic 172, 3) := by decide +kernel
theorem dL_law_37 : decode cL_law 37 = .ok (.istore 7, 2) := by decide +kernel
theorem dL_law_39 : decode cL_law 39 = .ok (.aload_n 0, 1) := by decide +kernel
theorem dL_law_40 : decode cL_law 40 = .ok (.iconst 2, 1) := by decide +kernel
theorem dL_law_41 : decode cL_law 41 = .ok (.iload 6, 2) := by decide +kernel
theorem dL_law_43 : decode cL_law 43 = .ok (.imul, 1) := by decide +kernel
theorem dL_law_44 : decode cL_law 44 = .ok (.iconst 1, 1) := by decide +kernel
theorem dL_law_45 : decode cL_law 45 = .ok (.iadd, 1) := by decide +kernel
theorem dL_law_46 : decode cL_law 46 = .ok (.invokestatic 172, 3) := by decide +kernel
theorem dL_law_49 : decode cL_law 49 = .ok (.istore 8, 2) := by decide +kernel
theorem dL_law_51 : decode cL_law 51 = .ok (.iload 6, 2) := by decide +kernel
theorem dL_law_53 : decode cL_law 53 = .ok (.bipush 6, 2) := by decide +kernel
theorem dL_law_55 : decode cL_law 55 = .ok (.if_icmp .ge 7, 3) := by decide +kernel
theorem dL_law_58 : decode cL_law 58 = .ok (.iconst 3, 1) := by decide +kernel
theorem dL_law_59 : decode cL_law 59 = .ok (.goto 8, 3) := by decide +kernel
theorem dL_law_62 : decode cL_law 62 = .ok (.iload 7, 2) := by decide +kernel
theorem dL_law_64 : decode cL_law 64 = .ok (.bipush 16, 2) := by decide +kernel
theorem dL_law_66 : decode cL_law 66 = .ok (.irem, 1) := by decide +kernel
theorem dL_law_67 : decode cL_law 67 = .ok (.istore 9, 2) := by decide +kernel
theorem dL_law_69 : decode cL_law 69 = .ok (.iload 8, 2) := by decide +kernel
theorem dL_law_71 : decode cL_law 71 = .ok (.bipush 96, 2) := by decide +kernel
theorem dL_law_73 : decode cL_law 73 = .ok (.irem, 1) := by decide +kernel
theorem dL_law_74 : decode cL_law 74 = .ok (.istore 10, 2) := by decide +kernel
theorem dL_law_76 : decode cL_law 76 = .ok (.aload_n 1, 1) := by decide +kernel
theorem dL_law_77 : decode cL_law 77 = .ok (.iconst 1, 1) := by decide +kernel
theorem dL_law_78 : decode cL_law 78 = .ok (.invokestatic 114, 3) := by decide +kernel
theorem dL_law_81 : decode cL_law 81 = .ok (.lstore 11, 2) := by decide +kernel
theorem dL_law_83 : decode cL_law 83 = .ok (.aload_n 1, 1) := by decide +kernel
theorem dL_law_84 : decode cL_law 84 = .ok (.iload 10, 2) := by decide +kernel
theorem dL_law_86 : decode cL_law 86 = .ok (.iconst 0, 1) := by decide +kernel
theorem dL_law_87 : decode cL_law 87 = .ok (.invokestatic 101, 3) := by decide +kernel
theorem dL_law_90 : decode cL_law 90 = .ok (.lstore 13, 2) := by decide +kernel
theorem dL_law_92 : decode cL_law 92 = .ok (.iload 9, 2) := by decide +kernel
theorem dL_law_94 : decode cL_law 94 = .ok (.ifCond .ne 157, 3) := by decide +kernel
theorem dL_law_97 : decode cL_law 97 = .ok (.lload 13, 2) := by decide +kernel
theorem dL_law_99 : decode cL_law 99 = .ok (.lconst 0, 1) := by decide +kernel
theorem dL_law_100 : decode cL_law 100 = .ok (.lcmp, 1) := by decide +kernel
theorem dL_law_101 : decode cL_law 101 = .ok (.ifCond .ne 57, 3) := by decide +kernel
theorem dL_law_104 : decode cL_law 104 = .ok (.aload_n 1, 1) := by decide +kernel
theorem dL_law_105 : decode cL_law 105 = .ok (.iload 10, 2) := by decide +kernel
theorem dL_law_107 : decode cL_law 107 = .ok (.iconst 2, 1) := by decide +kernel
theorem dL_law_108 : decode cL_law 108 = .ok (.invokestatic 101, 3) := by decide +kernel
theorem dL_law_111 : decode cL_law 111 = .ok (.lconst 0, 1) := by decide +kernel
theorem dL_law_112 : decode cL_law 112 = .ok (.lcmp, 1) := by decide +kernel
theorem dL_law_113 : decode cL_law 113 = .ok (.ifCond .ne 45, 3) := by decide +kernel
theorem dL_law_116 : decode cL_law 116 = .ok (.aload_n 1, 1) := by decide +kernel
theorem dL_law_117 : decode cL_law 117 = .ok (.iload 10, 2) := by decide +kernel
theorem dL_law_119 : decode cL_law 119 = .ok (.iconst 4, 1) := by decide +kernel
theorem dL_law_120 : decode cL_law 120 = .ok (.invokestatic 101, 3) := by decide +kernel
theorem dL_law_123 : decode cL_law 123 = .ok (.aload_n 1, 1) := by decide +kernel
theorem dL_law_124 : decode cL_law 124 = .ok (.iload 10, 2) := by decide +kernel
theorem dL_law_126 : decode cL_law 126 = .ok (.iconst 5, 1) := by decide +kernel
theorem dL_law_127 : decode cL_law 127 = .ok (.invokestatic 101, 3) := by decide +kernel
theorem dL_law_130 : decode cL_law 130 = .ok (.ladd, 1) := by decide +kernel
theorem dL_law_131 : decode cL_law 131 = .ok (.aload_n 1, 1) := by decide +kernel
theorem dL_law_132 : decode cL_law 132 = .ok (.iload 10, 2) := by decide +kernel
theorem dL_law_134 : decode cL_law 134 = .ok (.bipush 6, 2) := by decide +kernel
theorem dL_law_136 : decode cL_law 136 = .ok (.invokestatic 101, 3) := by decide +kernel
theorem dL_law_139 : decode cL_law 139 = .ok (.ladd, 1) := by decide +kernel
theorem dL_law_140 : decode cL_law 140 = .ok (.aload_n 1, 1) := by decide +kernel
theorem dL_law_141 : decode cL_law 141 = .ok (.iload 10, 2) := by decide +kernel
theorem dL_law_143 : decode cL_law 143 = .ok (.bipush 7, 2) := by decide +kernel
theorem dL_law_145 : decode cL_law 145 = .ok (.invokestatic 101, 3) := by decide +kernel
theorem dL_law_148 : decode cL_law 148 = .ok (.ladd, 1) := by decide +kernel
theorem dL_law_149 : decode cL_law 149 = .ok (.lconst 0, 1) := by decide +kernel
theorem dL_law_150 : decode cL_law 150 = .ok (.lcmp, 1) := by decide +kernel
theorem dL_law_151 : decode cL_law 151 = .ok (.ifCond .ne 7, 3) := by decide +kernel
theorem dL_law_154 : decode cL_law 154 = .ok (.iconst 1, 1) := by decide +kernel
theorem dL_law_155 : decode cL_law 155 = .ok (.goto 4, 3) := by decide +kernel
theorem dL_law_158 : decode cL_law 158 = .ok (.iconst 0, 1) := by decide +kernel
theorem dL_law_159 : decode cL_law 159 = .ok (.istore 15, 2) := by decide +kernel
theorem dL_law_161 : decode cL_law 161 = .ok (.aload_n 1, 1) := by decide +kernel
theorem dL_law_162 : decode cL_law 162 = .ok (.iload 10, 2) := by decide +kernel
theorem dL_law_164 : decode cL_law 164 = .ok (.iload 8, 2) := by decide +kernel
theorem dL_law_166 : decode cL_law 166 = .ok (.bipush 96, 2) := by decide +kernel
theorem dL_law_168 : decode cL_law 168 = .ok (.idiv, 1) := by decide +kernel
theorem dL_law_169 : decode cL_law 169 = .ok (.iconst 5, 1) := by decide +kernel
theorem dL_law_170 : decode cL_law 170 = .ok (.irem, 1) := by decide +kernel
theorem dL_law_171 : decode cL_law 171 = .ok (.iconst 1, 1) := by decide +kernel
theorem dL_law_172 : decode cL_law 172 = .ok (.isub, 1) := by decide +kernel
theorem dL_law_173 : decode cL_law 173 = .ok (.invokestatic 144, 3) := by decide +kernel
theorem dL_law_176 : decode cL_law 176 = .ok (.lstore 16, 2) := by decide +kernel
theorem dL_law_178 : decode cL_law 178 = .ok (.lload 16, 2) := by decide +kernel
theorem dL_law_180 : decode cL_law 180 = .ok (.ldc2_w 21, 3) := by decide +kernel
theorem dL_law_183 : decode cL_law 183 = .ok (.lcmp, 1) := by decide +kernel
theorem dL_law_184 : decode cL_law 184 = .ok (.ifCond .eq 58, 3) := by decide +kernel
theorem dL_law_187 : decode cL_law 187 = .ok (.lload 16, 2) := by decide +kernel
theorem dL_law_189 : decode cL_law 189 = .ok (.lconst 0, 1) := by decide +kernel
theorem dL_law_190 : decode cL_law 190 = .ok (.lcmp, 1) := by decide +kernel
theorem dL_law_191 : decode cL_law 191 = .ok (.ifCond .ne 55, 3) := by decide +kernel
theorem dL_law_194 : decode cL_law 194 = .ok (.iload 15, 2) := by decide +kernel
theorem dL_law_196 : decode cL_law 196 = .ok (.ifCond .eq 50, 3) := by decide +kernel
theorem dL_law_199 : decode cL_law 199 = .ok (.aload_n 1, 1) := by decide +kernel
theorem dL_law_200 : decode cL_law 200 = .ok (.iload 10, 2) := by decide +kernel
theorem dL_law_202 : decode cL_law 202 = .ok (.iconst 0, 1) := by decide +kernel
theorem dL_law_203 : decode cL_law 203 = .ok (.invokestatic 101, 3) := by decide +kernel
theorem dL_law_206 : decode cL_law 206 = .ok (.lconst 1, 1) := by decide +kernel
theorem dL_law_207 : decode cL_law 207 = .ok (.lcmp, 1) := by decide +kernel
theorem dL_law_208 : decode cL_law 208 = .ok (.ifCond .ne 38, 3) := by decide +kernel
theorem dL_law_211 : decode cL_law 211 = .ok (.aload_n 1, 1) := by decide +kernel
theorem dL_law_212 : decode cL_law 212 = .ok (.iload 10, 2) := by decide +kernel
theorem dL_law_214 : decode cL_law 214 = .ok (.iconst 1, 1) := by decide +kernel
theorem dL_law_215 : decode cL_law 215 = .ok (.invokestatic 101, 3) := by decide +kernel
theorem dL_law_218 : decode cL_law 218 = .ok (.iload 8, 2) := by decide +kernel
theorem dL_law_220 : decode cL_law 220 = .ok (.bipush 96, 2) := by decide +kernel
theorem dL_law_222 : decode cL_law 222 = .ok (.idiv, 1) := by decide +kernel
theorem dL_law_223 : decode cL_law 223 = .ok (.iconst 5, 1) := by decide +kernel
theorem dL_law_224 : decode cL_law 224 = .ok (.irem, 1) := by decide +kernel
theorem dL_law_225 : decode cL_law 225 = .ok (.iconst 1, 1) := by decide +kernel
theorem dL_law_226 : decode cL_law 226 = .ok (.isub, 1) := by decide +kernel
theorem dL_law_227 : decode cL_law 227 = .ok (.i2l, 1) := by decide +kernel
theorem dL_law_228 : decode cL_law 228 = .ok (.lcmp, 1) := by decide +kernel
theorem dL_law_229 : decode cL_law 229 = .ok (.ifCond .ne 17, 3) := by decide +kernel
theorem dL_law_232 : decode cL_law 232 = .ok (.aload_n 1, 1) := by decide +kernel
theorem dL_law_233 : decode cL_law 233 = .ok (.iconst 1, 1) := by decide +kernel
theorem dL_law_234 : decode cL_law 234 = .ok (.invokestatic 114, 3) := by decide +kernel
theorem dL_law_237 : decode cL_law 237 = .ok (.lconst 0, 1) := by decide +kernel
theorem dL_law_238 : decode cL_law 238 = .ok (.lcmp, 1) := by decide +kernel
theorem dL_law_239 : decode cL_law 239 = .ok (.ifCond .ne 7, 3) := by decide +kernel
theorem dL_law_242 : decode cL_law 242 = .ok (.iconst 1, 1) := by decide +kernel
theorem dL_law_243 : decode cL_law 243 = .ok (.goto 4, 3) := by decide +kernel
theorem dL_law_246 : decode cL_law 246 = .ok (.iconst 0, 1) := by decide +kernel
theorem dL_law_247 : decode cL_law 247 = .ok (.istore_n 2, 1) := by decide +kernel
theorem dL_law_248 : decode cL_law 248 = .ok (.goto 930, 3) := by decide +kernel
theorem dL_law_251 : decode cL_law 251 = .ok (.iload 9, 2) := by decide +kernel
theorem dL_law_253 : decode cL_law 253 = .ok (.iconst 1, 1) := by decide +kernel
theorem dL_law_254 : decode cL_law 254 = .ok (.if_icmp .ne 46, 3) := by decide +kernel
theorem dL_law_257 : decode cL_law 257 = .ok (.aload_n 1, 1) := by decide +kernel
theorem dL_law_258 : decode cL_law 258 = .ok (.iload 10, 2) := by decide +kernel
theorem dL_law_260 : decode cL_law 260 = .ok (.invokestatic 146, 3) := by decide +kernel
theorem dL_law_263 : decode cL_law 263 = .ok (.lload 13, 2) := by decide +kernel
theorem dL_law_265 : decode cL_law 265 = .ok (.lcmp, 1) := by decide +kernel
theorem dL_law_266 : decode cL_law 266 = .ok (.ifCond .ne 29, 3) := by decide +kernel
theorem dL_law_269 : decode cL_law 269 = .ok (.aload_n 1, 1) := by decide +kernel
theorem dL_law_270 : decode cL_law 270 = .ok (.iload 10, 2) := by decide +kernel
theorem dL_law_272 : decode cL_law 272 = .ok (.iconst 0, 1) := by decide +kernel
theorem dL_law_273 : decode cL_law 273 = .ok (.invokestatic 101, 3) := by decide +kernel
theorem dL_law_276 : decode cL_law 276 = .ok (.lconst 0, 1) := by decide +kernel
theorem dL_law_277 : decode cL_law 277 = .ok (.lcmp, 1) := by decide +kernel
theorem dL_law_278 : decode cL_law 278 = .ok (.ifCond .ne 17, 3) := by decide +kernel
theorem dL_law_281 : decode cL_law 281 = .ok (.aload_n 1, 1) := by decide +kernel
theorem dL_law_282 : decode cL_law 282 = .ok (.iconst 1, 1) := by decide +kernel
theorem dL_law_283 : decode cL_law 283 = .ok (.invokestatic 114, 3) := by decide +kernel
theorem dL_law_286 : decode cL_law 286 = .ok (.lconst 0, 1) := by decide +kernel
theorem dL_law_287 : decode cL_law 287 = .ok (.lcmp, 1) := by decide +kernel
theorem dL_law_288 : decode cL_law 288 = .ok (.ifCond .ne 7, 3) := by decide +kernel
theorem dL_law_291 : decode cL_law 291 = .ok (.iconst 1, 1) := by decide +kernel
theorem dL_law_292 : decode cL_law 292 = .ok (.goto 4, 3) := by decide +kernel
theorem dL_law_295 : decode cL_law 295 = .ok (.iconst 0, 1) := by decide +kernel
theorem dL_law_296 : decode cL_law 296 = .ok (.istore_n 2, 1) := by decide +kernel
theorem dL_law_297 : decode cL_law 297 = .ok (.goto 881, 3) := by decide +kernel
theorem dL_law_300 : decode cL_law 300 = .ok (.iload 9, 2) := by decide +kernel
theorem dL_law_302 : decode cL_law 302 = .ok (.iconst 2, 1) := by decide +kernel
theorem dL_law_303 : decode cL_law 303 = .ok (.if_icmp .ne 92, 3) := by decide +kernel
theorem dL_law_306 : decode cL_law 306 = .ok (.iload 8, 2) := by decide +kernel
theorem dL_law_308 : decode cL_law 308 = .ok (.bipush 96, 2) := by decide +kernel
theorem dL_law_310 : decode cL_law 310 = .ok (.idiv, 1) := by decide +kernel
theorem dL_law_311 : decode cL_law 311 = .ok (.iconst 5, 1) := by decide +kernel
theorem dL_law_312 : decode cL_law 312 = .ok (.irem, 1) := by decide +kernel
theorem dL_law_313 : decode cL_law 313 = .ok (.ifCond .ne 7, 3) := by decide +kernel
theorem dL_law_316 : decode cL_law 316 = .ok (.iconst 2, 1) := by decide +kernel
theorem dL_law_317 : decode cL_law 317 = .ok (.goto 4, 3) := by decide +kernel
theorem dL_law_320 : decode cL_law 320 = .ok (.iconst 3, 1) := by decide +kernel
theorem dL_law_321 : decode cL_law 321 = .ok (.istore 15, 2) := by decide +kernel
theorem dL_law_323 : decode cL_law 323 = .ok (.iload 8, 2) := by decide +kernel
theorem dL_law_325 : decode cL_law 325 = .ok (.sipush 512, 3) := by decide +kernel
theorem dL_law_328 : decode cL_law 328 = .ok (.idiv, 1) := by decide +kernel
theorem dL_law_329 : decode cL_law 329 = .ok (.iconst 3, 1) := by decide +kernel
theorem dL_law_330 : decode cL_law 330 = .ok (.irem, 1) := by decide +kernel
theorem dL_law_331 : decode cL_law 331 = .ok (.ifCond .gt 55, 3) := by decide +kernel
theorem dL_law_334 : decode cL_law 334 = .ok (.aload_n 1, 1) := by decide +kernel
theorem dL_law_335 : decode cL_law 335 = .ok (.iload 10, 2) := by decide +kernel
theorem dL_law_337 : decode cL_law 337 = .ok (.iload 15, 2) := by decide +kernel
theorem dL_law_339 : decode cL_law 339 = .ok (.invokestatic 148, 3) := by decide +kernel
theorem dL_law_342 : decode cL_law 342 = .ok (.lload 13, 2) := by decide +kernel
theorem dL_law_344 : decode cL_law 344 = .ok (.lconst 0, 1) := by decide +kernel
theorem dL_law_345 : decode cL_law 345 = .ok (.lcmp, 1) := by decide +kernel
theorem dL_law_346 : decode cL_law 346 = .ok (.ifCond .ne 7, 3) := by decide +kernel
theorem dL_law_349 : decode cL_law 349 = .ok (.lconst 0, 1) := by decide +kernel
theorem dL_law_350 : decode cL_law 350 = .ok (.goto 6, 3) := by decide +kernel
theorem dL_law_353 : decode cL_law 353 = .ok (.ldc2_w 21, 3) := by decide +kernel
theorem dL_law_356 : decode cL_law 356 = .ok (.lcmp, 1) := by decide +kernel
theorem dL_law_357 : decode cL_law 357 = .ok (.ifCond .ne 33, 3) := by decide +kernel
theorem dL_law_360 : decode cL_law 360 = .ok (.aload_n 1, 1) := by decide +kernel
theorem dL_law_361 : decode cL_law 361 = .ok (.iload 10, 2) := by decide +kernel
theorem dL_law_363 : decode cL_law 363 = .ok (.iconst 0, 1) := by decide +kernel
theorem dL_law_364 : decode cL_law 364 = .ok (.invokestatic 101, 3) := by decide +kernel
theorem dL_law_367 : decode cL_law 367 = .ok (.lload 13, 2) := by decide +kernel
theorem dL_law_369 : decode cL_law 369 = .ok (.lconst 0, 1) := by decide +kernel
theorem dL_law_370 : decode cL_law 370 = .ok (.lcmp, 1) := by decide +kernel
theorem dL_law_371 : decode cL_law 371 = .ok (.ifCond .ne 9, 3) := by decide +kernel
theorem dL_law_374 : decode cL_law 374 = .ok (.iload 15, 2) := by decide +kernel
theorem dL_law_376 : decode cL_law 376 = .ok (.i2l, 1) := by decide +kernel
theorem dL_law_377 : decode cL_law 377 = .ok (.goto 5, 3) := by decide +kernel
theorem dL_law_380 : decode cL_law 380 = .ok (.lload 13, 2) := by decide +kernel
theorem dL_law_382 : decode cL_law 382 = .ok (.lcmp, 1) := by decide +kernel
theorem dL_law_383 : decode cL_law 383 = .ok (.ifCond .ne 7, 3) := by decide +kernel
theorem dL_law_386 : decode cL_law 386 = .ok (.iconst 1, 1) := by decide +kernel
theorem dL_law_387 : decode cL_law 387 = .ok (.goto 4, 3) := by decide +kernel
theorem dL_law_390 : decode cL_law 390 = .ok (.iconst 0, 1) := by decide +kernel
theorem dL_law_391 : decode cL_law 391 = .ok (.istore_n 2, 1) := by decide +kernel
theorem dL_law_392 : decode cL_law 392 = .ok (.goto 786, 3) := by decide +kernel
theorem dL_law_395 : decode cL_law 395 = .ok (.iload 9, 2) := by decide +kernel
theorem dL_law_397 : decode cL_law 397 = .ok (.bipush 6, 2) := by decide +kernel
theorem dL_law_399 : decode cL_law 399 = .ok (.if_icmp .ge 132, 3) := by decide +kernel
theorem dL_law_402 : decode cL_law 402 = .ok (.iconst 0, 1) := by decide +kernel
theorem dL_law_403 : decode cL_law 403 = .ok (.istore 15, 2) := by decide +kernel
theorem dL_law_405 : decode cL_law 405 = .ok (.iload 15, 2) := by decide +kernel
theorem dL_law_407 : decode cL_law 407 = .ok (.bipush 6, 2) := by decide +kernel
theorem dL_law_409 : decode cL_law 409 = .ok (.if_icmp .ge 119, 3) := by decide +kernel
theorem dL_law_412 : decode cL_law 412 = .ok (.iload_n 2, 1) := by decide +kernel
theorem dL_law_413 : decode cL_law 413 = .ok (.ifCond .eq 115, 3) := by decide +kernel
theorem dL_law_416 : decode cL_law 416 = .ok (.iload 10, 2) := by decide +kernel
theorem dL_law_418 : decode cL_law 418 = .ok (.bipush 17, 2) := by decide +kernel
theorem dL_law_420 : decode cL_law 420 = .ok (.iload 15, 2) := by decide +kernel
theorem dL_law_422 : decode cL_law 422 = .ok (.imul, 1) := by decide +kernel
theorem dL_law_423 : decode cL_law 423 = .ok (.iadd, 1) := by decide +kernel
theorem dL_law_424 : decode cL_law 424 = .ok (.bipush 96, 2) := by decide +kernel
theorem dL_law_426 : decode cL_law 426 = .ok (.irem, 1) := by decide +kernel
theorem dL_law_427 : decode cL_law 427 = .ok (.istore 16, 2) := by decide +kernel
theorem dL_law_429 : decode cL_law 429 = .ok (.iload 8, 2) := by decide +kernel
theorem dL_law_431 : decode cL_law 431 = .ok (.bipush 96, 2) := by decide +kernel
theorem dL_law_433 : decode cL_law 433 = .ok (.idiv, 1) := by decide +kernel
theorem dL_law_434 : decode cL_law 434 = .ok (.iload 15, 2) := by decide +kernel
theorem dL_law_436 : decode cL_law 436 = .ok (.iadd, 1) := by decide +kernel
theorem dL_law_437 : decode cL_law 437 = .ok (.iconst 4, 1) := by decide +kernel
theorem dL_law_438 : decode cL_law 438 = .ok (.irem, 1) := by decide +kernel
theorem dL_law_439 : decode cL_law 439 = .ok (.istore 17, 2) := by decide +kernel
theorem dL_law_441 : decode cL_law 441 = .ok (.aload_n 1, 1) := by decide +kernel
theorem dL_law_442 : decode cL_law 442 = .ok (.iload 16, 2) := by decide +kernel
theorem dL_law_444 : decode cL_law 444 = .ok (.iconst 0, 1) := by decide +kernel
theorem dL_law_445 : decode cL_law 445 = .ok (.invokestatic 101, 3) := by decide +kernel
theorem dL_law_448 : decode cL_law 448 = .ok (.lconst 1, 1) := by decide +kernel
theorem dL_law_449 : decode cL_law 449 = .ok (.lcmp, 1) := by decide +kernel
theorem dL_law_450 : decode cL_law 450 = .ok (.ifCond .eq 23, 3) := by decide +kernel
theorem dL_law_453 : decode cL_law 453 = .ok (.aload_n 1, 1) := by decide +kernel
theorem dL_law_454 : decode cL_law 454 = .ok (.iload 16, 2) := by decide +kernel
theorem dL_law_456 : decode cL_law 456 = .ok (.iconst 2, 1) := by decide +kernel
theorem dL_law_457 : decode cL_law 457 = .ok (.invokestatic 101, 3) := by decide +kernel
theorem dL_law_460 : decode cL_law 460 = .ok (.l2i, 1) := by decide +kernel
theorem dL_law_461 : decode cL_law 461 = .ok (.iload 17, 2) := by decide +kernel
theorem dL_law_463 : decode cL_law 463 = .ok (.ishr, 1) := by decide +kernel
theorem dL_law_464 : decode cL_law 464 = .ok (.iconst 1, 1) := by decide +kernel
theorem dL_law_465 : decode cL_law 465 = .ok (.iand, 1) := by decide +kernel
theorem dL_law_466 : decode cL_law 466 = .ok (.ifCond .ne 7, 3) := by decide +kernel
theorem dL_law_469 : decode cL_law 469 = .ok (.iconst 1, 1) := by decide +kernel
theorem dL_law_470 : decode cL_law 470 = .ok (.goto 4, 3) := by decide +kernel
theorem dL_law_473 : decode cL_law 473 = .ok (.iconst 0, 1) := by decide +kernel
theorem dL_law_474 : decode cL_law 474 = .ok (.istore 18, 2) := by decide +kernel
theorem dL_law_476 : decode cL_law 476 = .ok (.aload_n 1, 1) := by decide +kernel
theorem dL_law_477 : decode cL_law 477 = .ok (.iload 16, 2) := by decide +kernel
theorem dL_law_479 : decode cL_law 479 = .ok (.iconst 2, 1) := by decide +kernel
theorem dL_law_480 : decode cL_law 480 = .ok (.invokestatic 101, 3) := by decide +kernel
theorem dL_law_483 : decode cL_law 483 = .ok (.lstore 19, 2) := by decide +kernel
theorem dL_law_485 : decode cL_law 485 = .ok (.aload_n 1, 1) := by decide +kernel
theorem dL_law_486 : decode cL_law 486 = .ok (.iload 16, 2) := by decide +kernel
theorem dL_law_488 : decode cL_law 488 = .ok (.iload 17, 2) := by decide +kernel
theorem dL_law_490 : decode cL_law 490 = .ok (.invokestatic 150, 3) := by decide +kernel
theorem dL_law_493 : decode cL_law 493 = .ok (.iload 18, 2) := by decide +kernel
theorem dL_law_495 : decode cL_law 495 = .ok (.ifCond .eq 14, 3) := by decide +kernel
theorem dL_law_498 : decode cL_law 498 = .ok (.lload 19, 2) := by decide +kernel
theorem dL_law_500 : decode cL_law 500 = .ok (.iconst 1, 1) := by decide +kernel
theorem dL_law_501 : decode cL_law 501 = .ok (.iload 17, 2) := by decide +kernel
theorem dL_law_503 : decode cL_law 503 = .ok (.ishl, 1) := by decide +kernel
theorem dL_law_504 : decode cL_law 504 = .ok (.i2l, 1) := by decide +kernel
theorem dL_law_505 : decode cL_law 505 = .ok (.ladd, 1) := by decide +kernel
theorem dL_law_506 : decode cL_law 506 = .ok (.goto 6, 3) := by decide +kernel
theorem dL_law_509 : decode cL_law 509 = .ok (.ldc2_w 21, 3) := by decide +kernel
theorem dL_law_512 : decode cL_law 512 = .ok (.lcmp, 1) := by decide +kernel
theorem dL_law_513 : decode cL_law 513 = .ok (.ifCond .ne 7, 3) := by decide +kernel
theorem dL_law_516 : decode cL_law 516 = .ok (.iconst 1, 1) := by decide +kernel
theorem dL_law_517 : decode cL_law 517 = .ok (.goto 4, 3) := by decide +kernel
theorem dL_law_520 : decode cL_law 520 = .ok (.iconst 0, 1) := by decide +kernel
theorem dL_law_521 : decode cL_law 521 = .ok (.istore_n 2, 1) := by decide +kernel
theorem dL_law_522 : decode cL_law 522 = .ok (.iinc 15 1, 3) := by decide +kernel
theorem dL_law_525 : decode cL_law 525 = .ok (.goto (-120), 3) := by decide +kernel
theorem dL_law_528 : decode cL_law 528 = .ok (.goto 650, 3) := by decide +kernel
theorem dL_law_531 : decode cL_law 531 = .ok (.iload 9, 2) := by decide +kernel
theorem dL_law_533 : decode cL_law 533 = .ok (.bipush 6, 2) := by decide +kernel
theorem dL_law_535 : decode cL_law 535 = .ok (.if_icmp .ne 52, 3) := by decide +kernel
theorem dL_law_538 : decode cL_law 538 = .ok (.aload_n 1, 1) := by decide +kernel
theorem dL_law_539 : decode cL_law 539 = .ok (.iload 10, 2) := by decide +kernel
theorem dL_law_541 : decode cL_law 541 = .ok (.invokestatic 152, 3) := by decide +kernel
theorem dL_law_544 : decode cL_law 544 = .ok (.lconst 0, 1) := by decide +kernel
theorem dL_law_545 : decode cL_law 545 = .ok (.lcmp, 1) := by decide +kernel
theorem dL_law_546 : decode cL_law 546 = .ok (.ifCond .lt 36, 3) := by decide +kernel
theorem dL_law_549 : decode cL_law 549 = .ok (.aload_n 1, 1) := by decide +kernel
theorem dL_law_550 : decode cL_law 550 = .ok (.iload 10, 2) := by decide +kernel
theorem dL_law_552 : decode cL_law 552 = .ok (.iconst 3, 1) := by decide +kernel
theorem dL_law_553 : decode cL_law 553 = .ok (.invokestatic 101, 3) := by decide +kernel
theorem dL_law_556 : decode cL_law 556 = .ok (.aload_n 1, 1) := by decide +kernel
theorem dL_law_557 : decode cL_law 557 = .ok (.iload 10, 2) := by decide +kernel
theorem dL_law_559 : decode cL_law 559 = .ok (.iconst 2, 1) := by decide +kernel
theorem dL_law_560 : decode cL_law 560 = .ok (.invokestatic 101, 3) := by decide +kernel
theorem dL_law_563 : decode cL_law 563 = .ok (.lcmp, 1) := by decide +kernel
theorem dL_law_564 : decode cL_law 564 = .ok (.ifCond .ne 18, 3) := by decide +kernel
theorem dL_law_567 : decode cL_law 567 = .ok (.aload_n 1, 1) := by decide +kernel
theorem dL_law_568 : decode cL_law 568 = .ok (.iload 10, 2) := by decide +kernel
theorem dL_law_570 : decode cL_law 570 = .ok (.invokestatic 152, 3) := by decide +kernel
theorem dL_law_573 : decode cL_law 573 = .ok (.lconst 0, 1) := by decide +kernel
theorem dL_law_574 : decode cL_law 574 = .ok (.lcmp, 1) := by decide +kernel
theorem dL_law_575 : decode cL_law 575 = .ok (.ifCond .ne 7, 3) := by decide +kernel
theorem dL_law_578 : decode cL_law 578 = .ok (.iconst 1, 1) := by decide +kernel
theorem dL_law_579 : decode cL_law 579 = .ok (.goto 4, 3) := by decide +kernel
theorem dL_law_582 : decode cL_law 582 = .ok (.iconst 0, 1) := by decide +kernel
theorem dL_law_583 : decode cL_law 583 = .ok (.istore_n 2, 1) := by decide +kernel
theorem dL_law_584 : decode cL_law 584 = .ok (.goto 594, 3) := by decide +kernel
theorem dL_law_587 : decode cL_law 587 = .ok (.iload 9, 2) := by decide +kernel
theorem dL_law_589 : decode cL_law 589 = .ok (.bipush 7, 2) := by decide +kernel
theorem dL_law_591 : decode cL_law 591 = .ok (.if_icmp .ne 67, 3) := by decide +kernel
theorem dL_law_594 : decode cL_law 594 = .ok (.lload 13, 2) := by decide +kernel
theorem dL_law_596 : decode cL_law 596 = .ok (.lconst 1, 1) := by decide +kernel
theorem dL_law_597 : decode cL_law 597 = .ok (.lcmp, 1) := by decide +kernel
theorem dL_law_598 : decode cL_law 598 = .ok (.ifCond .eq 12, 3) := by decide +kernel
theorem dL_law_601 : decode cL_law 601 = .ok (.iload_n 3, 1) := by decide +kernel
theorem dL_law_602 : decode cL_law 602 = .ok (.iconst 4, 1) := by decide +kernel
theorem dL_law_603 : decode cL_law 603 = .ok (.if_icmp .ge 7, 3) := by decide +kernel
theorem dL_law_606 : decode cL_law 606 = .ok (.iconst 1, 1) := by decide +kernel
theorem dL_law_607 : decode cL_law 607 = .ok (.goto 4, 3) := by decide +kernel
theorem dL_law_610 : decode cL_law 610 = .ok (.iconst 0, 1) := by decide +kernel
theorem dL_law_611 : decode cL_law 611 = .ok (.istore 15, 2) := by decide +kernel
theorem dL_law_613 : decode cL_law 613 = .ok (.aload_n 1, 1) := by decide +kernel
theorem dL_law_614 : decode cL_law 614 = .ok (.iload 10, 2) := by decide +kernel
theorem dL_law_616 : decode cL_law 616 = .ok (.invokestatic 154, 3) := by decide +kernel
theorem dL_law_619 : decode cL_law 619 = .ok (.iload 15, 2) := by decide +kernel
theorem dL_law_621 : decode cL_law 621 = .ok (.ifCond .eq 8, 3) := by decide +kernel
theorem dL_law_624 : decode cL_law 624 = .ok (.iload_n 3, 1) := by decide +kernel
theorem dL_law_625 : decode cL_law 625 = .ok (.i2l, 1) := by decide +kernel
theorem dL_law_626 : decode cL_law 626 = .ok (.goto 6, 3) := by decide +kernel
theorem dL_law_629 : decode cL_law 629 = .ok (.ldc2_w 21, 3) := by decide +kernel
theorem dL_law_632 : decode cL_law 632 = .ok (.lcmp, 1) := by decide +kernel
theorem dL_law_633 : decode cL_law 633 = .ok (.ifCond .ne 7, 3) := by decide +kernel
theorem dL_law_636 : decode cL_law 636 = .ok (.iconst 1, 1) := by decide +kernel
theorem dL_law_637 : decode cL_law 637 = .ok (.goto 4, 3) := by decide +kernel
theorem dL_law_640 : decode cL_law 640 = .ok (.iconst 0, 1) := by decide +kernel
theorem dL_law_641 : decode cL_law 641 = .ok (.istore_n 2, 1) := by decide +kernel
theorem dL_law_642 : decode cL_law 642 = .ok (.iload_n 3, 1) := by decide +kernel
theorem dL_law_643 : decode cL_law 643 = .ok (.iload 15, 2) := by decide +kernel
theorem dL_law_645 : decode cL_law 645 = .ok (.ifCond .eq 7, 3) := by decide +kernel
theorem dL_law_648 : decode cL_law 648 = .ok (.iconst 1, 1) := by decide +kernel
theorem dL_law_649 : decode cL_law 649 = .ok (.goto 4, 3) := by decide +kernel
theorem dL_law_652 : decode cL_law 652 = .ok (.iconst 0, 1) := by decide +kernel
theorem dL_law_653 : decode cL_law 653 = .ok (.iadd, 1) := by decide +kernel
theorem dL_law_654 : decode cL_law 654 = .ok (.istore_n 3, 1) := by decide +kernel
theorem dL_law_655 : decode cL_law 655 = .ok (.goto 523, 3) := by decide +kernel
theorem dL_law_658 : decode cL_law 658 = .ok (.iload 9, 2) := by decide +kernel
theorem dL_law_660 : decode cL_law 660 = .ok (.bipush 8, 2) := by decide +kernel
theorem dL_law_662 : decode cL_law 662 = .ok (.if_icmp .ne 92, 3) := by decide +kernel
theorem dL_law_665 : decode cL_law 665 = .ok (.lload 13, 2) := by decide +kernel
theorem dL_law_667 : decode cL_law 667 = .ok (.lconst 1, 1) := by decide +kernel
theorem dL_law_668 : decode cL_law 668 = .ok (.lcmp, 1) := by decide +kernel
theorem dL_law_669 : decode cL_law 669 = .ok (.ifCond .eq 7, 3) := by decide +kernel
theorem dL_law_672 : decode cL_law 672 = .ok (.iconst 1, 1) := by decide +kernel
theorem dL_law_673 : decode cL_law 673 = .ok (.goto 4, 3) := by decide +kernel
theorem dL_law_676 : decode cL_law 676 = .ok (.iconst 0, 1) := by decide +kernel
theorem dL_law_677 : decode cL_law 677 = .ok (.istore 15, 2) := by decide +kernel
theorem dL_law_679 : decode cL_law 679 = .ok (.aload_n 1, 1) := by decide +kernel
theorem dL_law_680 : decode cL_law 680 = .ok (.iload 10, 2) := by decide +kernel
theorem dL_law_682 : decode cL_law 682 = .ok (.iconst 4, 1) := by decide +kernel
theorem dL_law_683 : decode cL_law 683 = .ok (.iload 7, 2) := by decide +kernel
theorem dL_law_685 : decode cL_law 685 = .ok (.bipush 16, 2) := by decide +kernel
theorem dL_law_687 : decode cL_law 687 = .ok (.idiv, 1) := by decide +kernel
theorem dL_law_688 : decode cL_law 688 = .ok (.iconst 4, 1) := by decide +kernel
theorem dL_law_689 : decode cL_law 689 = .ok (.irem, 1) := by decide +kernel
theorem dL_law_690 : decode cL_law 690 = .ok (.iadd, 1) := by decide +kernel
theorem dL_law_691 : decode cL_law 691 = .ok (.invokestatic 101, 3) := by decide +kernel
theorem dL_law_694 : decode cL_law 694 = .ok (.lstore 16, 2) := by decide +kernel
theorem dL_law_696 : decode cL_law 696 = .ok (.iconst 1, 1) := by decide +kernel
theorem dL_law_697 : decode cL_law 697 = .ok (.iload 8, 2) := by decide +kernel
theorem dL_law_699 : decode cL_law 699 = .ok (.bipush 96, 2) := by decide +kernel
theorem dL_law_701 : decode cL_law 701 = .ok (.idiv, 1) := by decide +kernel
theorem dL_law_702 : decode cL_law 702 = .ok (.sipush 2000, 3) := by decide +kernel
theorem dL_law_705 : decode cL_law 705 = .ok (.irem, 1) := by decide +kernel
theorem dL_law_706 : decode cL_law 706 = .ok (.iadd, 1) := by decide +kernel
theorem dL_law_707 : decode cL_law 707 = .ok (.istore 18, 2) := by decide +kernel
theorem dL_law_709 : decode cL_law 709 = .ok (.aload_n 1, 1) := by decide +kernel
theorem dL_law_710 : decode cL_law 710 = .ok (.iload 10, 2) := by decide +kernel
theorem dL_law_712 : decode cL_law 712 = .ok (.iload 7, 2) := by decide +kernel
theorem dL_law_714 : decode cL_law 714 = .ok (.bipush 16, 2) := by decide +kernel
theorem dL_law_716 : decode cL_law 716 = .ok (.idiv, 1) := by decide +kernel
theorem dL_law_717 : decode cL_law 717 = .ok (.iconst 4, 1) := by decide +kernel
theorem dL_law_718 : decode cL_law 718 = .ok (.irem, 1) := by decide +kernel
theorem dL_law_719 : decode cL_law 719 = .ok (.iload 18, 2) := by decide +kernel
theorem dL_law_721 : decode cL_law 721 = .ok (.invokestatic 158, 3) := by decide +kernel
theorem dL_law_724 : decode cL_law 724 = .ok (.iload 15, 2) := by decide +kernel
theorem dL_law_726 : decode cL_law 726 = .ok (.ifCond .eq 12, 3) := by decide +kernel
theorem dL_law_729 : decode cL_law 729 = .ok (.lload 16, 2) := by decide +kernel
theorem dL_law_731 : decode cL_law 731 = .ok (.iload 18, 2) := by decide +kernel
theorem dL_law_733 : decode cL_law 733 = .ok (.i2l, 1) := by decide +kernel
theorem dL_law_734 : decode cL_law 734 = .ok (.ladd, 1) := by decide +kernel
theorem dL_law_735 : decode cL_law 735 = .ok (.goto 6, 3) := by decide +kernel
theorem dL_law_738 : decode cL_law 738 = .ok (.ldc2_w 21, 3) := by decide +kernel
theorem dL_law_741 : decode cL_law 741 = .ok (.lcmp, 1) := by decide +kernel
theorem dL_law_742 : decode cL_law 742 = .ok (.ifCond .ne 7, 3) := by decide +kernel
theorem dL_law_745 : decode cL_law 745 = .ok (.iconst 1, 1) := by decide +kernel
theorem dL_law_746 : decode cL_law 746 = .ok (.goto 4, 3) := by decide +kernel
theorem dL_law_749 : decode cL_law 749 = .ok (.iconst 0, 1) := by decide +kernel
theorem dL_law_750 : decode cL_law 750 = .ok (.istore_n 2, 1) := by decide +kernel
theorem dL_law_751 : decode cL_law 751 = .ok (.goto 427, 3) := by decide +kernel
theorem dL_law_754 : decode cL_law 754 = .ok (.iload 9, 2) := by decide +kernel
theorem dL_law_756 : decode cL_law 756 = .ok (.bipush 9, 2) := by decide +kernel
theorem dL_law_758 : decode cL_law 758 = .ok (.if_icmp .ne 59, 3) := by decide +kernel
theorem dL_law_761 : decode cL_law 761 = .ok (.aload_n 1, 1) := by decide +kernel
theorem dL_law_762 : decode cL_law 762 = .ok (.bipush 7, 2) := by decide +kernel
theorem dL_law_764 : decode cL_law 764 = .ok (.invokestatic 114, 3) := by decide +kernel
theorem dL_law_767 : decode cL_law 767 = .ok (.lstore 4, 2) := by decide +kernel
theorem dL_law_769 : decode cL_law 769 = .ok (.aload_n 1, 1) := by decide +kernel
theorem dL_law_770 : decode cL_law 770 = .ok (.iconst 1, 1) := by decide +kernel
theorem dL_law_771 : decode cL_law 771 = .ok (.iload 8, 2) := by decide +kernel
theorem dL_law_773 : decode cL_law 773 = .ok (.bipush 9, 2) := by decide +kernel
theorem dL_law_775 : decode cL_law 775 = .ok (.irem, 1) := by decide +kernel
theorem dL_law_776 : decode cL_law 776 = .ok (.iadd, 1) := by decide +kernel
theorem dL_law_777 : decode cL_law 777 = .ok (.invokestatic 165, 3) := by decide +kernel
theorem dL_law_780 : decode cL_law 780 = .ok (.lconst 0, 1) := by decide +kernel
theorem dL_law_781 : decode cL_law 781 = .ok (.lcmp, 1) := by decide +kernel
theorem dL_law_782 : decode cL_law 782 = .ok (.ifCond .le 30, 3) := by decide +kernel
theorem dL_law_785 : decode cL_law 785 = .ok (.aload_n 1, 1) := by decide +kernel
theorem dL_law_786 : decode cL_law 786 = .ok (.bipush 7, 2) := by decide +kernel
theorem dL_law_788 : decode cL_law 788 = .ok (.invokestatic 114, 3) := by decide +kernel
theorem dL_law_791 : decode cL_law 791 = .ok (.lload 4, 2) := by decide +kernel
theorem dL_law_793 : decode cL_law 793 = .ok (.lcmp, 1) := by decide +kernel
theorem dL_law_794 : decode cL_law 794 = .ok (.ifCond .ne 18, 3) := by decide +kernel
theorem dL_law_797 : decode cL_law 797 = .ok (.aload_n 1, 1) := by decide +kernel
theorem dL_law_798 : decode cL_law 798 = .ok (.iconst 1, 1) := by decide +kernel
theorem dL_law_799 : decode cL_law 799 = .ok (.invokestatic 114, 3) := by decide +kernel
theorem dL_law_802 : decode cL_law 802 = .ok (.lload 11, 2) := by decide +kernel
theorem dL_law_804 : decode cL_law 804 = .ok (.lcmp, 1) := by decide +kernel
theorem dL_law_805 : decode cL_law 805 = .ok (.ifCond .ne 7, 3) := by decide +kernel
theorem dL_law_808 : decode cL_law 808 = .ok (.iconst 1, 1) := by decide +kernel
theorem dL_law_809 : decode cL_law 809 = .ok (.goto 4, 3) := by decide +kernel
theorem dL_law_812 : decode cL_law 812 = .ok (.iconst 0, 1) := by decide +kernel
theorem dL_law_813 : decode cL_law 813 = .ok (.istore_n 2, 1) := by decide +kernel
theorem dL_law_814 : decode cL_law 814 = .ok (.goto 364, 3) := by decide +kernel
theorem dL_law_817 : decode cL_law 817 = .ok (.iload 9, 2) := by decide +kernel
theorem dL_law_819 : decode cL_law 819 = .ok (.bipush 10, 2) := by decide +kernel
theorem dL_law_821 : decode cL_law 821 = .ok (.if_icmp .ne 96, 3) := by decide +kernel
theorem dL_law_824 : decode cL_law 824 = .ok (.aload_n 1, 1) := by decide +kernel
theorem dL_law_825 : decode cL_law 825 = .ok (.iload 8, 2) := by decide +kernel
theorem dL_law_827 : decode cL_law 827 = .ok (.iconst 4, 1) := by decide +kernel
theorem dL_law_828 : decode cL_law 828 = .ok (.irem, 1) := by decide +kernel
theorem dL_law_829 : decode cL_law 829 = .ok (.iconst 4, 1) := by decide +kernel
theorem dL_law_830 : decode cL_law 830 = .ok (.invokestatic 110, 3) := by decide +kernel
theorem dL_law_833 : decode cL_law 833 = .ok (.lstore 15, 2) := by decide +kernel
theorem dL_law_835 : decode cL_law 835 = .ok (.iload 8, 2) := by decide +kernel
theorem dL_law_837 : decode cL_law 837 = .ok (.iconst 4, 1) := by decide +kernel
theorem dL_law_838 : decode cL_law 838 = .ok (.idiv, 1) := by decide +kernel
theorem dL_law_839 : decode cL_law 839 = .ok (.bipush 11, 2) := by decide +kernel
theorem dL_law_841 : decode cL_law 841 = .ok (.irem, 1) := by decide +kernel
theorem dL_law_842 : decode cL_law 842 = .ok (.iconst 5, 1) := by decide +kernel
theorem dL_law_843 : decode cL_law 843 = .ok (.isub, 1) := by decide +kernel
theorem dL_law_844 : decode cL_law 844 = .ok (.istore 17, 2) := by decide +kernel
theorem dL_law_846 : decode cL_law 846 = .ok (.aload_n 1, 1) := by decide +kernel
theorem dL_law_847 : decode cL_law 847 = .ok (.iload 8, 2) := by decide +kernel
theorem dL_law_849 : decode cL_law 849 = .ok (.iconst 4, 1) := by decide +kernel
theorem dL_law_850 : decode cL_law 850 = .ok (.irem, 1) := by decide +kernel
theorem dL_law_851 : decode cL_law 851 = .ok (.iload 17, 2) := by decide +kernel
theorem dL_law_853 : decode cL_law 853 = .ok (.invokestatic 156, 3) := by decide +kernel
theorem dL_law_856 : decode cL_law 856 = .ok (.ldc2_w 176, 3) := by decide +kernel
theorem dL_law_859 : decode cL_law 859 = .ok (.lcmp, 1) := by decide +kernel
theorem dL_law_860 : decode cL_law 860 = .ok (.ifCond .lt 52, 3) := by decide +kernel
theorem dL_law_863 : decode cL_law 863 = .ok (.aload_n 1, 1) := by decide +kernel
theorem dL_law_864 : decode cL_law 864 = .ok (.iload 8, 2) := by decide +kernel
theorem dL_law_866 : decode cL_law 866 = .ok (.iconst 4, 1) := by decide +kernel
theorem dL_law_867 : decode cL_law 867 = .ok (.irem, 1) := by decide +kernel
theorem dL_law_868 : decode cL_law 868 = .ok (.iconst 4, 1) := by decide +kernel
theorem dL_law_869 : decode cL_law 869 = .ok (.invokestatic 110, 3) := by decide +kernel
theorem dL_law_872 : decode cL_law 872 = .ok (.aload_n 1, 1) := by decide +kernel
theorem dL_law_873 : decode cL_law 873 = .ok (.iload 8, 2) := by decide +kernel
theorem dL_law_875 : decode cL_law 875 = .ok (.iconst 4, 1) := by decide +kernel
theorem dL_law_876 : decode cL_law 876 = .ok (.irem, 1) := by decide +kernel
theorem dL_law_877 : decode cL_law 877 = .ok (.iconst 2, 1) := by decide +kernel
theorem dL_law_878 : decode cL_law 878 = .ok (.invokestatic 110, 3) := by decide +kernel
theorem dL_law_881 : decode cL_law 881 = .ok (.iload 17, 2) := by decide +kernel
theorem dL_law_883 : decode cL_law 883 = .ok (.i2l, 1) := by decide +kernel
theorem dL_law_884 : decode cL_law 884 = .ok (.aload_n 1, 1) := by decide +kernel
theorem dL_law_885 : decode cL_law 885 = .ok (.iload 8, 2) := by decide +kernel
theorem dL_law_887 : decode cL_law 887 = .ok (.iconst 4, 1) := by decide +kernel
theorem dL_law_888 : decode cL_law 888 = .ok (.irem, 1) := by decide +kernel
theorem dL_law_889 : decode cL_law 889 = .ok (.iconst 1, 1) := by decide +kernel
theorem dL_law_890 : decode cL_law 890 = .ok (.invokestatic 110, 3) := by decide +kernel
theorem dL_law_893 : decode cL_law 893 = .ok (.lmul, 1) := by decide +kernel
theorem dL_law_894 : decode cL_law 894 = .ok (.ladd, 1) := by decide +kernel
theorem dL_law_895 : decode cL_law 895 = .ok (.lcmp, 1) := by decide +kernel
theorem dL_law_896 : decode cL_law 896 = .ok (.ifCond .ne 16, 3) := by decide +kernel
theorem dL_law_899 : decode cL_law 899 = .ok (.lload 15, 2) := by decide +kernel
theorem dL_law_901 : decode cL_law 901 = .ok (.ldc2_w 178, 3) := by decide +kernel
theorem dL_law_904 : decode cL_law 904 = .ok (.lcmp, 1) := by decide +kernel
theorem dL_law_905 : decode cL_law 905 = .ok (.ifCond .lt 7, 3) := by decide +kernel
theorem dL_law_908 : decode cL_law 908 = .ok (.iconst 1, 1) := by decide +kernel
theorem dL_law_909 : decode cL_law 909 = .ok (.goto 4, 3) := by decide +kernel
theorem dL_law_912 : decode cL_law 912 = .ok (.iconst 0, 1) := by decide +kernel
theorem dL_law_913 : decode cL_law 913 = .ok (.istore_n 2, 1) := by decide +kernel
theorem dL_law_914 : decode cL_law 914 = .ok (.goto 264, 3) := by decide +kernel
theorem dL_law_917 : decode cL_law 917 = .ok (.iload 9, 2) := by decide +kernel
theorem dL_law_919 : decode cL_law 919 = .ok (.bipush 14, 2) := by decide +kernel
theorem dL_law_921 : decode cL_law 921 = .ok (.if_icmp .ge 197, 3) := by decide +kernel
theorem dL_law_924 : decode cL_law 924 = .ok (.iconst 1, 1) := by decide +kernel
theorem dL_law_925 : decode cL_law 925 = .ok (.iload 8, 2) := by decide +kernel
theorem dL_law_927 : decode cL_law 927 = .ok (.bipush 6, 2) := by decide +kernel
theorem dL_law_929 : decode cL_law 929 = .ok (.irem, 1) := by decide +kernel
theorem dL_law_930 : decode cL_law 930 = .ok (.iadd, 1) := by decide +kernel
theorem dL_law_931 : decode cL_law 931 = .ok (.istore 15, 2) := by decide +kernel
theorem dL_law_933 : decode cL_law 933 = .ok (.aload_n 1, 1) := by decide +kernel
theorem dL_law_934 : decode cL_law 934 = .ok (.invokestatic 140, 3) := by decide +kernel
theorem dL_law_937 : decode cL_law 937 = .ok (.lstore 16, 2) := by decide +kernel
theorem dL_law_939 : decode cL_law 939 = .ok (.aload_n 1, 1) := by decide +kernel
theorem dL_law_940 : decode cL_law 940 = .ok (.iconst 0, 1) := by decide +kernel
theorem dL_law_941 : decode cL_law 941 = .ok (.invokestatic 114, 3) := by decide +kernel
theorem dL_law_944 : decode cL_law 944 = .ok (.lstore 18, 2) := by decide +kernel
theorem dL_law_946 : decode cL_law 946 = .ok (.aload_n 1, 1) := by decide +kernel
theorem dL_law_947 : decode cL_law 947 = .ok (.iconst 2, 1) := by decide +kernel
theorem dL_law_948 : decode cL_law 948 = .ok (.invokestatic 114, 3) := by decide +kernel
theorem dL_law_951 : decode cL_law 951 = .ok (.lstore 20, 2) := by decide +kernel
theorem dL_law_953 : decode cL_law 953 = .ok (.aload_n 1, 1) := by decide +kernel
theorem dL_law_954 : decode cL_law 954 = .ok (.iload 15, 2) := by decide +kernel
theorem dL_law_956 : decode cL_law 956 = .ok (.invokestatic 161, 3) := by decide +kernel
theorem dL_law_959 : decode cL_law 959 = .ok (.lload 18, 2) := by decide +kernel
theorem dL_law_961 : decode cL_law 961 = .ok (.iload 15, 2) := by decide +kernel
theorem dL_law_963 : decode cL_law 963 = .ok (.i2l, 1) := by decide +kernel
theorem dL_law_964 : decode cL_law 964 = .ok (.ladd, 1) := by decide +kernel
theorem dL_law_965 : decode cL_law 965 = .ok (.lcmp, 1) := by decide +kernel
theorem dL_law_966 : decode cL_law 966 = .ok (.ifCond .ne 32, 3) := by decide +kernel
theorem dL_law_969 : decode cL_law 969 = .ok (.aload_n 1, 1) := by decide +kernel
theorem dL_law_970 : decode cL_law 970 = .ok (.iconst 1, 1) := by decide +kernel
theorem dL_law_971 : decode cL_law 971 = .ok (.invokestatic 114, 3) := by decide +kernel
theorem dL_law_974 : decode cL_law 974 = .ok (.lload 11, 2) := by decide +kernel
theorem dL_law_976 : decode cL_law 976 = .ok (.iload 15, 2) := by decide +kernel
theorem dL_law_978 : decode cL_law 978 = .ok (.i2l, 1) := by decide +kernel
theorem dL_law_979 : decode cL_law 979 = .ok (.ladd, 1) := by decide +kernel
theorem dL_law_980 : decode cL_law 980 = .ok (.lcmp, 1) := by decide +kernel
theorem dL_law_981 : decode cL_law 981 = .ok (.ifCond .eq 13, 3) := by decide +kernel
theorem dL_law_984 : decode cL_law 984 = .ok (.aload_n 1, 1) := by decide +kernel
theorem dL_law_985 : decode cL_law 985 = .ok (.iconst 1, 1) := by decide +kernel
theorem dL_law_986 : decode cL_law 986 = .ok (.invokestatic 114, 3) := by decide +kernel
theorem dL_law_989 : decode cL_law 989 = .ok (.lconst 0, 1) := by decide +kernel
theorem dL_law_990 : decode cL_law 990 = .ok (.lcmp, 1) := by decide +kernel
theorem dL_law_991 : decode cL_law 991 = .ok (.ifCond .ne 7, 3) := by decide +kernel
theorem dL_law_994 : decode cL_law 994 = .ok (.iconst 1, 1) := by decide +kernel
theorem dL_law_995 : decode cL_law 995 = .ok (.goto 4, 3) := by decide +kernel
theorem dL_law_998 : decode cL_law 998 = .ok (.iconst 0, 1) := by decide +kernel
theorem dL_law_999 : decode cL_law 999 = .ok (.istore_n 2, 1) := by decide +kernel
theorem dL_law_1000 : decode cL_law 1000 = .ok (.aload_n 1, 1) := by decide +kernel
theorem dL_law_1001 : decode cL_law 1001 = .ok (.iconst 1, 1) := by decide +kernel
theorem dL_law_1002 : decode cL_law 1002 = .ok (.invokestatic 114, 3) := by decide +kernel
theorem dL_law_1005 : decode cL_law 1005 = .ok (.lconst 0, 1) := by decide +kernel
theorem dL_law_1006 : decode cL_law 1006 = .ok (.lcmp, 1) := by decide +kernel
theorem dL_law_1007 : decode cL_law 1007 = .ok (.ifCond .le 86, 3) := by decide +kernel
theorem dL_law_1010 : decode cL_law 1010 = .ok (.iload_n 2, 1) := by decide +kernel
theorem dL_law_1011 : decode cL_law 1011 = .ok (.ifCond .eq 51, 3) := by decide +kernel
theorem dL_law_1014 : decode cL_law 1014 = .ok (.aload_n 1, 1) := by decide +kernel
theorem dL_law_1015 : decode cL_law 1015 = .ok (.iconst 2, 1) := by decide +kernel
theorem dL_law_1016 : decode cL_law 1016 = .ok (.invokestatic 114, 3) := by decide +kernel
theorem dL_law_1019 : decode cL_law 1019 = .ok (.lload 20, 2) := by decide +kernel
theorem dL_law_1021 : decode cL_law 1021 = .ok (.lcmp, 1) := by decide +kernel
theorem dL_law_1022 : decode cL_law 1022 = .ok (.ifCond .ne 40, 3) := by decide +kernel
theorem dL_law_1025 : decode cL_law 1025 = .ok (.aload_n 1, 1) := by decide +kernel
theorem dL_law_1026 : decode cL_law 1026 = .ok (.iload 15, 2) := by decide +kernel
theorem dL_law_1028 : decode cL_law 1028 = .ok (.invokestatic 163, 3) := by decide +kernel
theorem dL_law_1031 : decode cL_law 1031 = .ok (.lload 18, 2) := by decide +kernel
theorem dL_law_1033 : decode cL_law 1033 = .ok (.lcmp, 1) := by decide +kernel
theorem dL_law_1034 : decode cL_law 1034 = .ok (.ifCond .ne 28, 3) := by decide +kernel
theorem dL_law_1037 : decode cL_law 1037 = .ok (.aload_n 1, 1) := by decide +kernel
theorem dL_law_1038 : decode cL_law 1038 = .ok (.invokestatic 140, 3) := by decide +kernel
theorem dL_law_1041 : decode cL_law 1041 = .ok (.lload 16, 2) := by decide +kernel
theorem dL_law_1043 : decode cL_law 1043 = .ok (.lcmp, 1) := by decide +kernel
theorem dL_law_1044 : decode cL_law 1044 = .ok (.ifCond .ne 18, 3) := by decide +kernel
theorem dL_law_1047 : decode cL_law 1047 = .ok (.aload_n 1, 1) := by decide +kernel
theorem dL_law_1048 : decode cL_law 1048 = .ok (.iconst 1, 1) := by decide +kernel
theorem dL_law_1049 : decode cL_law 1049 = .ok (.invokestatic 114, 3) := by decide +kernel
theorem dL_law_1052 : decode cL_law 1052 = .ok (.lload 11, 2) := by decide +kernel
theorem dL_law_1054 : decode cL_law 1054 = .ok (.lcmp, 1) := by decide +kernel
theorem dL_law_1055 : decode cL_law 1055 = .ok (.ifCond .ne 7, 3) := by decide +kernel
theorem dL_law_1058 : decode cL_law 1058 = .ok (.iconst 1, 1) := by decide +kernel
theorem dL_law_1059 : decode cL_law 1059 = .ok (.goto 4, 3) := by decide +kernel
theorem dL_law_1062 : decode cL_law 1062 = .ok (.iconst 0, 1) := by decide +kernel
theorem dL_law_1063 : decode cL_law 1063 = .ok (.istore_n 2, 1) := by decide +kernel
theorem dL_law_1064 : decode cL_law 1064 = .ok (.iload_n 2, 1) := by decide +kernel
theorem dL_law_1065 : decode cL_law 1065 = .ok (.ifCond .eq 23, 3) := by decide +kernel
theorem dL_law_1068 : decode cL_law 1068 = .ok (.aload_n 1, 1) := by decide +kernel
theorem dL_law_1069 : decode cL_law 1069 = .ok (.iload 15, 2) := by decide +kernel
theorem dL_law_1071 : decode cL_law 1071 = .ok (.invokestatic 161, 3) := by decide +kernel
theorem dL_law_1074 : decode cL_law 1074 = .ok (.lload 18, 2) := by decide +kernel
theorem dL_law_1076 : decode cL_law 1076 = .ok (.iload 15, 2) := by decide +kernel
theorem dL_law_1078 : decode cL_law 1078 = .ok (.i2l, 1) := by decide +kernel
theorem dL_law_1079 : decode cL_law 1079 = .ok (.ladd, 1) := by decide +kernel
theorem dL_law_1080 : decode cL_law 1080 = .ok (.lcmp, 1) := by decide +kernel
theorem dL_law_1081 : decode cL_law 1081 = .ok (.ifCond .ne 7, 3) := by decide +kernel
theorem dL_law_1084 : decode cL_law 1084 = .ok (.iconst 1, 1) := by decide +kernel
theorem dL_law_1085 : decode cL_law 1085 = .ok (.goto 4, 3) := by decide +kernel
theorem dL_law_1088 : decode cL_law 1088 = .ok (.iconst 0, 1) := by decide +kernel
theorem dL_law_1089 : decode cL_law 1089 = .ok (.istore_n 2, 1) := by decide +kernel
theorem dL_law_1090 : decode cL_law 1090 = .ok (.goto 25, 3) := by decide +kernel
theorem dL_law_1093 : decode cL_law 1093 = .ok (.iload_n 2, 1) := by decide +kernel
theorem dL_law_1094 : decode cL_law 1094 = .ok (.ifCond .eq 19, 3) := by decide +kernel
theorem dL_law_1097 : decode cL_law 1097 = .ok (.aload_n 1, 1) := by decide +kernel
theorem dL_law_1098 : decode cL_law 1098 = .ok (.iconst 1, 1) := by decide +kernel
theorem dL_law_1099 : decode cL_law 1099 = .ok (.invokestatic 163, 3) := by decide +kernel
theorem dL_law_1102 : decode cL_law 1102 = .ok (.ldc2_w 21, 3) := by decide +kernel
theorem dL_law_1105 : decode cL_law 1105 = .ok (.lcmp, 1) := by decide +kernel
theorem dL_law_1106 : decode cL_law 1106 = .ok (.ifCond .ne 7, 3) := by decide +kernel
theorem dL_law_1109 : decode cL_law 1109 = .ok (.iconst 1, 1) := by decide +kernel
theorem dL_law_1110 : decode cL_law 1110 = .ok (.goto 4, 3) := by decide +kernel
theorem dL_law_1113 : decode cL_law 1113 = .ok (.iconst 0, 1) := by decide +kernel
theorem dL_law_1114 : decode cL_law 1114 = .ok (.istore_n 2, 1) := by decide +kernel
theorem dL_law_1115 : decode cL_law 1115 = .ok (.goto 63, 3) := by decide +kernel
theorem dL_law_1118 : decode cL_law 1118 = .ok (.lload 11, 2) := by decide +kernel
theorem dL_law_1120 : decode cL_law 1120 = .ok (.lconst 0, 1) := by decide +kernel
theorem dL_law_1121 : decode cL_law 1121 = .ok (.lcmp, 1) := by decide +kernel
theorem dL_law_1122 : decode cL_law 1122 = .ok (.ifCond .le 56, 3) := by decide +kernel
theorem dL_law_1125 : decode cL_law 1125 = .ok (.iconst 1, 1) := by decide +kernel
theorem dL_law_1126 : decode cL_law 1126 = .ok (.iload 8, 2) := by decide +kernel
theorem dL_law_1128 : decode cL_law 1128 = .ok (.bipush 9, 2) := by decide +kernel
theorem dL_law_1130 : decode cL_law 1130 = .ok (.irem, 1) := by decide +kernel
theorem dL_law_1131 : decode cL_law 1131 = .ok (.iadd, 1) := by decide +kernel
theorem dL_law_1132 : decode cL_law 1132 = .ok (.istore 15, 2) := by decide +kernel
theorem dL_law_1134 : decode cL_law 1134 = .ok (.aload_n 1, 1) := by decide +kernel
theorem dL_law_1135 : decode cL_law 1135 = .ok (.iconst 0, 1) := by decide +kernel
theorem dL_law_1136 : decode cL_law 1136 = .ok (.invokestatic 114, 3) := by decide +kernel
theorem dL_law_1139 : decode cL_law 1139 = .ok (.lstore 16, 2) := by decide +kernel
theorem dL_law_1141 : decode cL_law 1141 = .ok (.aload_n 1, 1) := by decide +kernel
theorem dL_law_1142 : decode cL_law 1142 = .ok (.iload 15, 2) := by decide +kernel
theorem dL_law_1144 : decode cL_law 1144 = .ok (.invokestatic 163, 3) := by decide +kernel
theorem dL_law_1147 : decode cL_law 1147 = .ok (.iload 15, 2) := by decide +kernel
theorem dL_law_1149 : decode cL_law 1149 = .ok (.i2l, 1) := by decide +kernel
theorem dL_law_1150 : decode cL_law 1150 = .ok (.lload 11, 2) := by decide +kernel
theorem dL_law_1152 : decode cL_law 1152 = .ok (.lcmp, 1) := by decide +kernel
theorem dL_law_1153 : decode cL_law 1153 = .ok (.ifCond .gt 12, 3) := by decide +kernel
theorem dL_law_1156 : decode cL_law 1156 = .ok (.lload 16, 2) := by decide +kernel
theorem dL_law_1158 : decode cL_law 1158 = .ok (.iload 15, 2) := by decide +kernel
theorem dL_law_1160 : decode cL_law 1160 = .ok (.i2l, 1) := by decide +kernel
theorem dL_law_1161 : decode cL_law 1161 = .ok (.lsub, 1) := by decide +kernel
theorem dL_law_1162 : decode cL_law 1162 = .ok (.goto 6, 3) := by decide +kernel
theorem dL_law_1165 : decode cL_law 1165 = .ok (.ldc2_w 21, 3) := by decide +kernel
theorem dL_law_1168 : decode cL_law 1168 = .ok (.lcmp, 1) := by decide +kernel
theorem dL_law_1169 : decode cL_law 1169 = .ok (.ifCond .ne 7, 3) := by decide +kernel
theorem dL_law_1172 : decode cL_law 1172 = .ok (.iconst 1, 1) := by decide +kernel
theorem dL_law_1173 : decode cL_law 1173 = .ok (.goto 4, 3) := by decide +kernel
theorem dL_law_1176 : decode cL_law 1176 = .ok (.iconst 0, 1) := by decide +kernel
theorem dL_law_1177 : decode cL_law 1177 = .ok (.istore_n 2, 1) := by decide +kernel
theorem dL_law_1178 : decode cL_law 1178 = .ok (.iload_n 2, 1) := by decide +kernel
theorem dL_law_1179 : decode cL_law 1179 = .ok (.ifCond .eq 38, 3) := by decide +kernel
theorem dL_law_1182 : decode cL_law 1182 = .ok (.aload_n 1, 1) := by decide +kernel
theorem dL_law_1183 : decode cL_law 1183 = .ok (.iload 7, 2) := by decide +kernel
theorem dL_law_1185 : decode cL_law 1185 = .ok (.bipush 8, 2) := by decide +kernel
theorem dL_law_1187 : decode cL_law 1187 = .ok (.idiv, 1) := by decide +kernel
theorem dL_law_1188 : decode cL_law 1188 = .ok (.iload 8, 2) := by decide +kernel
theorem dL_law_1190 : decode cL_law 1190 = .ok (.bipush 8, 2) := by decide +kernel
theorem dL_law_1192 : decode cL_law 1192 = .ok (.idiv, 1) := by decide +kernel
theorem dL_law_1193 : decode cL_law 1193 = .ok (.invokestatic 180, 3) := by decide +kernel
theorem dL_law_1196 : decode cL_law 1196 = .ok (.ifCond .eq 21, 3) := by decide +kernel
theorem dL_law_1199 : decode cL_law 1199 = .ok (.aload_n 1, 1) := by decide +kernel
theorem dL_law_1200 : decode cL_law 1200 = .ok (.iload 8, 2) := by decide +kernel
theorem dL_law_1202 : decode cL_law 1202 = .ok (.bipush 16, 2) := by decide +kernel
theorem dL_law_1204 : decode cL_law 1204 = .ok (.idiv, 1) := by decide +kernel
theorem dL_law_1205 : decode cL_law 1205 = .ok (.iconst 4, 1) := by decide +kernel
theorem dL_law_1206 : decode cL_law 1206 = .ok (.irem, 1) := by decide +kernel
theorem dL_law_1207 : decode cL_law 1207 = .ok (.invokestatic 184, 3) := by decide +kernel
theorem dL_law_1210 : decode cL_law 1210 = .ok (.ifCond .eq 7, 3) := by decide +kernel
theorem dL_law_1213 : decode cL_law 1213 = .ok (.iconst 1, 1) := by decide +kernel
theorem dL_law_1214 : decode cL_law 1214 = .ok (.goto 4, 3) := by decide +kernel
theorem dL_law_1217 : decode cL_law 1217 = .ok (.iconst 0, 1) := by decide +kernel
theorem dL_law_1218 : decode cL_law 1218 = .ok (.istore_n 2, 1) := by decide +kernel
theorem dL_law_1219 : decode cL_law 1219 = .ok (.iload 6, 2) := by decide +kernel
theorem dL_law_1221 : decode cL_law 1221 = .ok (.bipush 8, 2) := by decide +kernel
theorem dL_law_1223 : decode cL_law 1223 = .ok (.irem, 1) := by decide +kernel
theorem dL_law_1224 : decode cL_law 1224 = .ok (.bipush 7, 2) := by decide +kernel
theorem dL_law_1226 : decode cL_law 1226 = .ok (.if_icmp .ne 20, 3) := by decide +kernel
theorem dL_law_1229 : decode cL_law 1229 = .ok (.iload_n 2, 1) := by decide +kernel
theorem dL_law_1230 : decode cL_law 1230 = .ok (.ifCond .eq 14, 3) := by decide +kernel
theorem dL_law_1233 : decode cL_law 1233 = .ok (.aload_n 1, 1) := by decide +kernel
theorem dL_law_1234 : decode cL_law 1234 = .ok (.invokestatic 188, 3) := by decide +kernel
theorem dL_law_1237 : decode cL_law 1237 = .ok (.ifCond .eq 7, 3) := by decide +kernel
theorem dL_law_1240 : decode cL_law 1240 = .ok (.iconst 1, 1) := by decide +kernel
theorem dL_law_1241 : decode cL_law 1241 = .ok (.goto 4, 3) := by decide +kernel
theorem dL_law_1244 : decode cL_law 1244 = .ok (.iconst 0, 1) := by decide +kernel
theorem dL_law_1245 : decode cL_law 1245 = .ok (.istore_n 2, 1) := by decide +kernel
theorem dL_law_1246 : decode cL_law 1246 = .ok (.iload 6, 2) := by decide +kernel
theorem dL_law_1248 : decode cL_law 1248 = .ok (.bipush 24, 2) := by decide +kernel
theorem dL_law_1250 : decode cL_law 1250 = .ok (.irem, 1) := by decide +kernel
theorem dL_law_1251 : decode cL_law 1251 = .ok (.bipush 23, 2) := by decide +kernel
theorem dL_law_1253 : decode cL_law 1253 = .ok (.if_icmp .ne 20, 3) := by decide +kernel
theorem dL_law_1256 : decode cL_law 1256 = .ok (.iload_n 2, 1) := by decide +kernel
theorem dL_law_1257 : decode cL_law 1257 = .ok (.ifCond .eq 14, 3) := by decide +kernel
theorem dL_law_1260 : decode cL_law 1260 = .ok (.aload_n 1, 1) := by decide +kernel
theorem dL_law_1261 : decode cL_law 1261 = .ok (.invokestatic 192, 3) := by decide +kernel
theorem dL_law_1264 : decode cL_law 1264 = .ok (.ifCond .eq 7, 3) := by decide +kernel
theorem dL_law_1267 : decode cL_law 1267 = .ok (.iconst 1, 1) := by decide +kernel
theorem dL_law_1268 : decode cL_law 1268 = .ok (.goto 4, 3) := by decide +kernel
theorem dL_law_1271 : decode cL_law 1271 = .ok (.iconst 0, 1) := by decide +kernel
theorem dL_law_1272 : decode cL_law 1272 = .ok (.istore_n 2, 1) := by decide +kernel
theorem dL_law_1273 : decode cL_law 1273 = .ok (.iinc 6 1, 3) := by decide +kernel
theorem dL_law_1276 : decode cL_law 1276 = .ok (.goto (-1258), 3) := by decide +kernel
theorem dL_law_1279 : decode cL_law 1279 = .ok (.iload_n 2, 1) := by decide +kernel
theorem dL_law_1280 : decode cL_law 1280 = .ok (.ireturn, 1) := by decide +kernel
